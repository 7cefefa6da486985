/-! cases of the law -/
section LCASE
variable {p : Program} {l : Launch} {e : Env} {s : State} {m : MethodId} {below : List Frame} {meth : Method} {c : Code} {H : Heap} {locs : List Loc} {cells slots : Nat} {Q : State → Prop} {D : va_G} {h g : Nat → Nat} {cy gy : Nat → ClassId} {cs : CS} {ms : MS} {ls : Array Slot} {A : Nat → Prop} {b L i : Nat} {xs : Nat → Int32}
theorem lcase_1 (F : LF p m c s b L xs D cy gy A) (I : LI s A D h cy g gy cs ms H locs) (hl : lv_has ls 4 (LL b h g i)) (hi : i + 6 ≤ L) (hr : cells + 4 ≤ 600000 ∧ slots + 406 ≤ 7302250) (kk : ∀ (cs1 : CS) (ms1 : MS) (H1 : Heap) (locs1 : List Loc), LI s A D h cy g gy cs1 ms1 H1 locs1 → W p l e room_1 s m #[Value.ref b] below meth c H1 locs1 (cells + 4) (slots + 406) Q (F0 m 1616 ls [])) : W p l e room_1 s m #[Value.ref b] below meth c H locs cells slots Q (F0 m 273 ls []) := by
  obtain ⟨hx, hb, hml, hown, hts, hX, hbl, hbA, hA, hKC, hKM, hs, hL⟩ := F
  obtain ⟨hPC, hDC, hPM, hDM, hAp, hS, R⟩ := I
  obtain ⟨hr1, hr2⟩ := hr
  obtain ⟨r, ms1, hwr, hwc⟩ := s2_clown R (xs (i + 1)) (xs (i + 2))
  refine lv_aload_n hx hb dL_law_273 rfl (lv_at hl 2 rfl) ?_
  refine la_arg (k := 1) hx hb hX hbl hbA hS (by omega) hL (lv_at hl 3 rfl) (lv_at hl 0 rfl) (by decide) dL_law_274 dL_law_275 dL_law_276 dL_law_277 dL_law_278 ?_
  refine la_arg (k := 2) hx hb hX hbl hbA hS (by omega) hL (lv_at hl 3 rfl) (lv_at hl 0 rfl) (by decide) dL_law_279 dL_law_280 dL_law_281 dL_law_282 dL_law_283 ?_
  refine lc_Vi (b := h 0) (As := [.int (xs (i + 1)), .int (xs (i + 2))]) (rest := []) (mc := 0) (ms := 0) (Y := wM g gy ms) clE_stable hs ⟨hx, hb, hml, hown, hts⟩ (cC_X11_clown l D h cy _ _ _ _ hwc) (cwV 2 hts gL_law_X11_clown rfl rfl rfl (by decide +kernel) ⟨Nat.le_of_ble_eq_true rfl, Nat.le_of_ble_eq_true rfl⟩) (va_recv hKC hPC (ci := 10) (q0 := 0) rfl rfl) hKC hPC hDC hS hA hPM hAp rfl hl.1 rfl (Nat.le_of_ble_eq_true rfl) dL_law_284 ⟨show cells + 0 ≤ 600000 by omega, show slots + 0 ≤ 7302250 by omega⟩ (fun r1 cs1 H locs hw hPC hDC hS hPM hAp => ?_)
  obtain ⟨e1, R1⟩ := hw
  refine lv_aload_n hx hb dL_law_287 rfl (lv_at hl 1 rfl) ?_
  refine la_arg (k := 1) hx hb hX hbl hbA hS (by omega) hL (lv_at hl 3 rfl) (lv_at hl 0 rfl) (by decide) dL_law_288 dL_law_289 dL_law_290 dL_law_291 dL_law_292 ?_
  refine la_arg (k := 2) hx hb hX hbl hbA hS (by omega) hL (lv_at hl 3 rfl) (lv_at hl 0 rfl) (by decide) dL_law_293 dL_law_294 dL_law_295 dL_law_296 dL_law_297 ?_
  refine lm_Vi (b := g 31) (As := [.int (xs (i + 1)), .int (xs (i + 2))]) (rest := [.int r1]) (Y := wC h cy cs1) ⟨hx, hb, hml, hown, hts⟩ (cM_clown l D g gy _ _ _ _ hwr) (cwV 2 hts gL_law_X12_clown rfl rfl rfl (by decide +kernel) ⟨Nat.le_of_ble_eq_true rfl, Nat.le_of_ble_eq_true rfl⟩) (va_recv hKM hPM (ci := 11) (q0 := 0) rfl rfl) hKM hPM hDM hS hA hPC hAp.sym rfl hl.1 rfl (Nat.le_of_ble_eq_true rfl) dL_law_298 ⟨show cells + 0 ≤ 600000 by omega, show slots + 0 ≤ 7302250 by omega⟩ (fun r2 ms2 H locs hw hPM hDM hS hPC hAp => ?_)
  obtain ⟨e2, e3⟩ := hw
  refine lv_icmp_eq (tgt := 1616) hx hb dL_law_301 (by decide) (fun _ => ?_) (fun hne => absurd (e1.trans e2.symm) hne)
  refine W.widen (k := cells + 4) (n := slots + 406) (by omega) (by omega) ?_
  exact kk cs1 ms2 H locs ⟨hPC, hDC, hPM, hDM, hAp.sym, hS, by rw [e3]; exact R1⟩
theorem lcase_2 (F : LF p m c s b L xs D cy gy A) (I : LI s A D h cy g gy cs ms H locs) (hl : lv_has ls 4 (LL b h g i)) (hi : i + 6 ≤ L) (hr : cells + 4 ≤ 600000 ∧ slots + 406 ≤ 7302250) (kk : ∀ (cs1 : CS) (ms1 : MS) (H1 : Heap) (locs1 : List Loc), LI s A D h cy g gy cs1 ms1 H1 locs1 → W p l e room_1 s m #[Value.ref b] below meth c H1 locs1 (cells + 4) (slots + 406) Q (F0 m 1616 ls [])) : W p l e room_1 s m #[Value.ref b] below meth c H locs cells slots Q (F0 m 306 ls []) := by
  obtain ⟨hx, hb, hml, hown, hts, hX, hbl, hbA, hA, hKC, hKM, hs, hL⟩ := F
  obtain ⟨hPC, hDC, hPM, hDM, hAp, hS, R⟩ := I
  obtain ⟨hr1, hr2⟩ := hr
  obtain ⟨r, ms1, hwr, hwc⟩ := s2_mood R (xs (i + 1)) (xs (i + 2)) (xs (i + 3))
  refine lv_aload_n hx hb dL_law_306 rfl (lv_at hl 2 rfl) ?_
  refine la_arg (k := 1) hx hb hX hbl hbA hS (by omega) hL (lv_at hl 3 rfl) (lv_at hl 0 rfl) (by decide) dL_law_307 dL_law_308 dL_law_309 dL_law_310 dL_law_311 ?_
  refine la_arg (k := 2) hx hb hX hbl hbA hS (by omega) hL (lv_at hl 3 rfl) (lv_at hl 0 rfl) (by decide) dL_law_312 dL_law_313 dL_law_314 dL_law_315 dL_law_316 ?_
  refine la_arg (k := 3) hx hb hX hbl hbA hS (by omega) hL (lv_at hl 3 rfl) (lv_at hl 0 rfl) (by decide) dL_law_317 dL_law_318 dL_law_319 dL_law_320 dL_law_321 ?_
  refine lc_Vi (b := h 0) (As := [.int (xs (i + 1)), .int (xs (i + 2)), .int (xs (i + 3))]) (rest := []) (mc := 0) (ms := 0) (Y := wM g gy ms) clE_stable hs ⟨hx, hb, hml, hown, hts⟩ (cC_X11_mood l D h cy _ _ _ _ _ hwc) (cwV 3 hts gL_law_X11_mood rfl rfl rfl (by decide +kernel) ⟨Nat.le_of_ble_eq_true rfl, Nat.le_of_ble_eq_true rfl⟩) (va_recv hKC hPC (ci := 10) (q0 := 0) rfl rfl) hKC hPC hDC hS hA hPM hAp rfl hl.1 rfl (Nat.le_of_ble_eq_true rfl) dL_law_322 ⟨show cells + 0 ≤ 600000 by omega, show slots + 0 ≤ 7302250 by omega⟩ (fun r1 cs1 H locs hw hPC hDC hS hPM hAp => ?_)
  obtain ⟨e1, R1⟩ := hw
  refine lv_aload_n hx hb dL_law_325 rfl (lv_at hl 1 rfl) ?_
  refine la_arg (k := 1) hx hb hX hbl hbA hS (by omega) hL (lv_at hl 3 rfl) (lv_at hl 0 rfl) (by decide) dL_law_326 dL_law_327 dL_law_328 dL_law_329 dL_law_330 ?_
  refine la_arg (k := 2) hx hb hX hbl hbA hS (by omega) hL (lv_at hl 3 rfl) (lv_at hl 0 rfl) (by decide) dL_law_331 dL_law_332 dL_law_333 dL_law_334 dL_law_335 ?_
  refine la_arg (k := 3) hx hb hX hbl hbA hS (by omega) hL (lv_at hl 3 rfl) (lv_at hl 0 rfl) (by decide) dL_law_336 dL_law_337 dL_law_338 dL_law_339 dL_law_340 ?_
  refine lm_Vi (b := g 31) (As := [.int (xs (i + 1)), .int (xs (i + 2)), .int (xs (i + 3))]) (rest := [.int r1]) (Y := wC h cy cs1) ⟨hx, hb, hml, hown, hts⟩ (cM_mood l D g gy _ _ _ _ _ hwr) (cwV 3 hts gL_law_X12_mood rfl rfl rfl (by decide +kernel) ⟨Nat.le_of_ble_eq_true rfl, Nat.le_of_ble_eq_true rfl⟩) (va_recv hKM hPM (ci := 11) (q0 := 0) rfl rfl) hKM hPM hDM hS hA hPC hAp.sym rfl hl.1 rfl (Nat.le_of_ble_eq_true rfl) dL_law_341 ⟨show cells + 0 ≤ 600000 by omega, show slots + 0 ≤ 7302250 by omega⟩ (fun r2 ms2 H locs hw hPM hDM hS hPC hAp => ?_)
  obtain ⟨e2, e3⟩ := hw
  refine lv_icmp_eq (tgt := 1616) hx hb dL_law_344 (by decide) (fun _ => ?_) (fun hne => absurd (e1.trans e2.symm) hne)
  refine W.widen (k := cells + 4) (n := slots + 406) (by omega) (by omega) ?_
  exact kk cs1 ms2 H locs ⟨hPC, hDC, hPM, hDM, hAp.sym, hS, by rw [e3]; exact R1⟩
theorem lcase_3 (F : LF p m c s b L xs D cy gy A) (I : LI s A D h cy g gy cs ms H locs) (hl : lv_has ls 4 (LL b h g i)) (hi : i + 6 ≤ L) (hr : cells + 4 ≤ 600000 ∧ slots + 406 ≤ 7302250) (kk : ∀ (cs1 : CS) (ms1 : MS) (H1 : Heap) (locs1 : List Loc), LI s A D h cy g gy cs1 ms1 H1 locs1 → W p l e room_1 s m #[Value.ref b] below meth c H1 locs1 (cells + 4) (slots + 406) Q (F0 m 1616 ls [])) : W p l e room_1 s m #[Value.ref b] below meth c H locs cells slots Q (F0 m 349 ls []) := by
  obtain ⟨hx, hb, hml, hown, hts, hX, hbl, hbA, hA, hKC, hKM, hs, hL⟩ := F
  obtain ⟨hPC, hDC, hPM, hDM, hAp, hS, R⟩ := I
  obtain ⟨hr1, hr2⟩ := hr
  obtain ⟨r, ms1, hwr, hwc⟩ := s2_feed R (xs (i + 1)) (xs (i + 2)) (xs (i + 3)) (xs (i + 4)) (xs (i + 5))
  refine lv_aload_n hx hb dL_law_349 rfl (lv_at hl 2 rfl) ?_
  refine la_arg (k := 1) hx hb hX hbl hbA hS (by omega) hL (lv_at hl 3 rfl) (lv_at hl 0 rfl) (by decide) dL_law_350 dL_law_351 dL_law_352 dL_law_353 dL_law_354 ?_
  refine la_arg (k := 2) hx hb hX hbl hbA hS (by omega) hL (lv_at hl 3 rfl) (lv_at hl 0 rfl) (by decide) dL_law_355 dL_law_356 dL_law_357 dL_law_358 dL_law_359 ?_
  refine la_arg (k := 3) hx hb hX hbl hbA hS (by omega) hL (lv_at hl 3 rfl) (lv_at hl 0 rfl) (by decide) dL_law_360 dL_law_361 dL_law_362 dL_law_363 dL_law_364 ?_
  refine la_arg (k := 4) hx hb hX hbl hbA hS (by omega) hL (lv_at hl 3 rfl) (lv_at hl 0 rfl) (by decide) dL_law_365 dL_law_366 dL_law_367 dL_law_368 dL_law_369 ?_
  refine la_arg (k := 5) hx hb hX hbl hbA hS (by omega) hL (lv_at hl 3 rfl) (lv_at hl 0 rfl) (by decide) dL_law_370 dL_law_371 dL_law_372 dL_law_373 dL_law_374 ?_
  refine lc_Vi (b := h 0) (As := [.int (xs (i + 1)), .int (xs (i + 2)), .int (xs (i + 3)), .int (xs (i + 4)), .int (xs (i + 5))]) (rest := []) (mc := 0) (ms := 0) (Y := wM g gy ms) clE_stable hs ⟨hx, hb, hml, hown, hts⟩ (cC_X11_feed l D h cy _ _ _ _ _ _ _ hwc) (cwV 5 hts gL_law_X11_feed rfl rfl rfl (by decide +kernel) ⟨Nat.le_of_ble_eq_true rfl, Nat.le_of_ble_eq_true rfl⟩) (va_recv hKC hPC (ci := 10) (q0 := 0) rfl rfl) hKC hPC hDC hS hA hPM hAp rfl hl.1 rfl (Nat.le_of_ble_eq_true rfl) dL_law_375 ⟨show cells + 0 ≤ 600000 by omega, show slots + 0 ≤ 7302250 by omega⟩ (fun r1 cs1 H locs hw hPC hDC hS hPM hAp => ?_)
  obtain ⟨e1, R1⟩ := hw
  refine lv_aload_n hx hb dL_law_378 rfl (lv_at hl 1 rfl) ?_
  refine la_arg (k := 1) hx hb hX hbl hbA hS (by omega) hL (lv_at hl 3 rfl) (lv_at hl 0 rfl) (by decide) dL_law_379 dL_law_380 dL_law_381 dL_law_382 dL_law_383 ?_
  refine la_arg (k := 2) hx hb hX hbl hbA hS (by omega) hL (lv_at hl 3 rfl) (lv_at hl 0 rfl) (by decide) dL_law_384 dL_law_385 dL_law_386 dL_law_387 dL_law_388 ?_
  refine la_arg (k := 3) hx hb hX hbl hbA hS (by omega) hL (lv_at hl 3 rfl) (lv_at hl 0 rfl) (by decide) dL_law_389 dL_law_390 dL_law_391 dL_law_392 dL_law_393 ?_
  refine la_arg (k := 4) hx hb hX hbl hbA hS (by omega) hL (lv_at hl 3 rfl) (lv_at hl 0 rfl) (by decide) dL_law_394 dL_law_395 dL_law_396 dL_law_397 dL_law_398 ?_
  refine la_arg (k := 5) hx hb hX hbl hbA hS (by omega) hL (lv_at hl 3 rfl) (lv_at hl 0 rfl) (by decide) dL_law_399 dL_law_400 dL_law_401 dL_law_402 dL_law_403 ?_
  refine lm_Vi (b := g 31) (As := [.int (xs (i + 1)), .int (xs (i + 2)), .int (xs (i + 3)), .int (xs (i + 4)), .int (xs (i + 5))]) (rest := [.int r1]) (Y := wC h cy cs1) ⟨hx, hb, hml, hown, hts⟩ (cM_feed l D g gy _ _ _ _ _ _ _ hwr) (cwV 5 hts gL_law_X12_feed rfl rfl rfl (by decide +kernel) ⟨Nat.le_of_ble_eq_true rfl, Nat.le_of_ble_eq_true rfl⟩) (va_recv hKM hPM (ci := 11) (q0 := 0) rfl rfl) hKM hPM hDM hS hA hPC hAp.sym rfl hl.1 rfl (Nat.le_of_ble_eq_true rfl) dL_law_404 ⟨show cells + 0 ≤ 600000 by omega, show slots + 0 ≤ 7302250 by omega⟩ (fun r2 ms2 H locs hw hPM hDM hS hPC hAp => ?_)
  obtain ⟨e2, e3⟩ := hw
  refine lv_icmp_eq (tgt := 1616) hx hb dL_law_407 (by decide) (fun _ => ?_) (fun hne => absurd (e1.trans e2.symm) hne)
  refine W.widen (k := cells + 4) (n := slots + 406) (by omega) (by omega) ?_
  exact kk cs1 ms2 H locs ⟨hPC, hDC, hPM, hDM, hAp.sym, hS, by rw [e3]; exact R1⟩
theorem lcase_4 (F : LF p m c s b L xs D cy gy A) (I : LI s A D h cy g gy cs ms H locs) (hl : lv_has ls 4 (LL b h g i)) (hi : i + 6 ≤ L) (hr : cells + 4 ≤ 600000 ∧ slots + 406 ≤ 7302250) (kk : ∀ (cs1 : CS) (ms1 : MS) (H1 : Heap) (locs1 : List Loc), LI s A D h cy g gy cs1 ms1 H1 locs1 → W p l e room_1 s m #[Value.ref b] below meth c H1 locs1 (cells + 4) (slots + 406) Q (F0 m 1616 ls [])) : W p l e room_1 s m #[Value.ref b] below meth c H locs cells slots Q (F0 m 412 ls []) := by
  obtain ⟨hx, hb, hml, hown, hts, hX, hbl, hbA, hA, hKC, hKM, hs, hL⟩ := F
  obtain ⟨hPC, hDC, hPM, hDM, hAp, hS, R⟩ := I
  obtain ⟨hr1, hr2⟩ := hr
  obtain ⟨r, ms1, hwr, hwc⟩ := s2_end R (xs (i + 1))
  refine lv_aload_n hx hb dL_law_412 rfl (lv_at hl 2 rfl) ?_
  refine la_arg (k := 1) hx hb hX hbl hbA hS (by omega) hL (lv_at hl 3 rfl) (lv_at hl 0 rfl) (by decide) dL_law_413 dL_law_414 dL_law_415 dL_law_416 dL_law_417 ?_
  refine lc_Vi (b := h 0) (As := [.int (xs (i + 1))]) (rest := []) (mc := 0) (ms := 0) (Y := wM g gy ms) clE_stable hs ⟨hx, hb, hml, hown, hts⟩ (cC_X11_end l D h cy _ _ _ hwc) (cwV 1 hts gL_law_X11_end rfl rfl rfl (by decide +kernel) ⟨Nat.le_of_ble_eq_true rfl, Nat.le_of_ble_eq_true rfl⟩) (va_recv hKC hPC (ci := 10) (q0 := 0) rfl rfl) hKC hPC hDC hS hA hPM hAp rfl hl.1 rfl (Nat.le_of_ble_eq_true rfl) dL_law_418 ⟨show cells + 0 ≤ 600000 by omega, show slots + 0 ≤ 7302250 by omega⟩ (fun r1 cs1 H locs hw hPC hDC hS hPM hAp => ?_)
  obtain ⟨e1, R1⟩ := hw
  refine lv_aload_n hx hb dL_law_421 rfl (lv_at hl 1 rfl) ?_
  refine la_arg (k := 1) hx hb hX hbl hbA hS (by omega) hL (lv_at hl 3 rfl) (lv_at hl 0 rfl) (by decide) dL_law_422 dL_law_423 dL_law_424 dL_law_425 dL_law_426 ?_
  refine lm_Vi (b := g 31) (As := [.int (xs (i + 1))]) (rest := [.int r1]) (Y := wC h cy cs1) ⟨hx, hb, hml, hown, hts⟩ (cM_end l D g gy _ _ _ hwr) (cwV 1 hts gL_law_X12_end rfl rfl rfl (by decide +kernel) ⟨Nat.le_of_ble_eq_true rfl, Nat.le_of_ble_eq_true rfl⟩) (va_recv hKM hPM (ci := 11) (q0 := 0) rfl rfl) hKM hPM hDM hS hA hPC hAp.sym rfl hl.1 rfl (Nat.le_of_ble_eq_true rfl) dL_law_427 ⟨show cells + 0 ≤ 600000 by omega, show slots + 0 ≤ 7302250 by omega⟩ (fun r2 ms2 H locs hw hPM hDM hS hPC hAp => ?_)
  obtain ⟨e2, e3⟩ := hw
  refine lv_icmp_eq (tgt := 1616) hx hb dL_law_430 (by decide) (fun _ => ?_) (fun hne => absurd (e1.trans e2.symm) hne)
  refine W.widen (k := cells + 4) (n := slots + 406) (by omega) (by omega) ?_
  exact kk cs1 ms2 H locs ⟨hPC, hDC, hPM, hDM, hAp.sym, hS, by rw [e3]; exact R1⟩
theorem lcase_5 (F : LF p m c s b L xs D cy gy A) (I : LI s A D h cy g gy cs ms H locs) (hl : lv_has ls 4 (LL b h g i)) (hi : i + 6 ≤ L) (hr : cells + 4 ≤ 600000 ∧ slots + 406 ≤ 7302250) (kk : ∀ (cs1 : CS) (ms1 : MS) (H1 : Heap) (locs1 : List Loc), LI s A D h cy g gy cs1 ms1 H1 locs1 → W p l e room_1 s m #[Value.ref b] below meth c H1 locs1 (cells + 4) (slots + 406) Q (F0 m 1616 ls [])) : W p l e room_1 s m #[Value.ref b] below meth c H locs cells slots Q (F0 m 435 ls []) := by
  obtain ⟨hx, hb, hml, hown, hts, hX, hbl, hbA, hA, hKC, hKM, hs, hL⟩ := F
  obtain ⟨hPC, hDC, hPM, hDM, hAp, hS, R⟩ := I
  obtain ⟨hr1, hr2⟩ := hr
  obtain ⟨r, ms1, hwr, hwc⟩ := s2_text R
  refine lv_aload_n hx hb dL_law_435 rfl (lv_at hl 2 rfl) ?_
  refine lc_Vi (b := h 0) (As := []) (rest := []) (mc := 4) (ms := 406) (Y := wM g gy ms) clE_stable hs ⟨hx, hb, hml, hown, hts⟩ (cC_X11_text l D h cy _ _ hwc) (cwV 0 hts gL_law_X11_text rfl rfl rfl (by decide +kernel) ⟨Nat.le_of_ble_eq_true rfl, Nat.le_of_ble_eq_true rfl⟩) (va_recv hKC hPC (ci := 10) (q0 := 0) rfl rfl) hKC hPC hDC hS hA hPM hAp rfl hl.1 rfl (Nat.le_of_ble_eq_true rfl) dL_law_436 ⟨show cells + 4 ≤ 600000 by omega, show slots + 406 ≤ 7302250 by omega⟩ (fun r1 cs1 H locs hw hPC hDC hS hPM hAp => ?_)
  obtain ⟨e1, R1⟩ := hw
  refine lv_aload_n hx hb dL_law_439 rfl (lv_at hl 1 rfl) ?_
  refine lm_Vi (b := g 31) (As := []) (rest := [.int r1]) (Y := wC h cy cs1) ⟨hx, hb, hml, hown, hts⟩ (cM_text l D g gy _ _ hwr) (cwV 0 hts gL_law_X12_text rfl rfl rfl (by decide +kernel) ⟨Nat.le_of_ble_eq_true rfl, Nat.le_of_ble_eq_true rfl⟩) (va_recv hKM hPM (ci := 11) (q0 := 0) rfl rfl) hKM hPM hDM hS hA hPC hAp.sym rfl hl.1 rfl (Nat.le_of_ble_eq_true rfl) dL_law_440 ⟨show cells + 4 ≤ 600000 by omega, show slots + 406 ≤ 7302250 by omega⟩ (fun r2 ms2 H locs hw hPM hDM hS hPC hAp => ?_)
  obtain ⟨e2, e3⟩ := hw
  refine lv_icmp_eq (tgt := 1616) hx hb dL_law_443 (by decide) (fun _ => ?_) (fun hne => absurd (e1.trans e2.symm) hne)
  refine W.widen (k := cells + 4) (n := slots + 406) (by omega) (by omega) ?_
  exact kk cs1 ms2 H locs ⟨hPC, hDC, hPM, hDM, hAp.sym, hS, by rw [e3]; exact R1⟩
theorem lcase_6 (F : LF p m c s b L xs D cy gy A) (I : LI s A D h cy g gy cs ms H locs) (hl : lv_has ls 4 (LL b h g i)) (hi : i + 6 ≤ L) (hr : cells + 4 ≤ 600000 ∧ slots + 406 ≤ 7302250) (kk : ∀ (cs1 : CS) (ms1 : MS) (H1 : Heap) (locs1 : List Loc), LI s A D h cy g gy cs1 ms1 H1 locs1 → W p l e room_1 s m #[Value.ref b] below meth c H1 locs1 (cells + 4) (slots + 406) Q (F0 m 1616 ls [])) : W p l e room_1 s m #[Value.ref b] below meth c H locs cells slots Q (F0 m 448 ls []) := by
  obtain ⟨hx, hb, hml, hown, hts, hX, hbl, hbA, hA, hKC, hKM, hs, hL⟩ := F
  obtain ⟨hPC, hDC, hPM, hDM, hAp, hS, R⟩ := I
  obtain ⟨hr1, hr2⟩ := hr
  obtain ⟨r, ms1, hwr, hwc⟩ := s2_fault R (xs (i + 1))
  refine lv_aload_n hx hb dL_law_448 rfl (lv_at hl 2 rfl) ?_
  refine la_arg (k := 1) hx hb hX hbl hbA hS (by omega) hL (lv_at hl 3 rfl) (lv_at hl 0 rfl) (by decide) dL_law_449 dL_law_450 dL_law_451 dL_law_452 dL_law_453 ?_
  refine lc_Vi (b := h 0) (As := [.int (xs (i + 1))]) (rest := []) (mc := 0) (ms := 0) (Y := wM g gy ms) clE_stable hs ⟨hx, hb, hml, hown, hts⟩ (cC_X11_fault l D h cy _ _ _ hwc) (cwV 1 hts gL_law_X11_fault rfl rfl rfl (by decide +kernel) ⟨Nat.le_of_ble_eq_true rfl, Nat.le_of_ble_eq_true rfl⟩) (va_recv hKC hPC (ci := 10) (q0 := 0) rfl rfl) hKC hPC hDC hS hA hPM hAp rfl hl.1 rfl (Nat.le_of_ble_eq_true rfl) dL_law_454 ⟨show cells + 0 ≤ 600000 by omega, show slots + 0 ≤ 7302250 by omega⟩ (fun r1 cs1 H locs hw hPC hDC hS hPM hAp => ?_)
  obtain ⟨e1, R1⟩ := hw
  refine lv_aload_n hx hb dL_law_457 rfl (lv_at hl 1 rfl) ?_
  refine la_arg (k := 1) hx hb hX hbl hbA hS (by omega) hL (lv_at hl 3 rfl) (lv_at hl 0 rfl) (by decide) dL_law_458 dL_law_459 dL_law_460 dL_law_461 dL_law_462 ?_
  refine lm_Vi (b := g 31) (As := [.int (xs (i + 1))]) (rest := [.int r1]) (Y := wC h cy cs1) ⟨hx, hb, hml, hown, hts⟩ (cM_fault l D g gy _ _ _ hwr) (cwV 1 hts gL_law_X12_fault rfl rfl rfl (by decide +kernel) ⟨Nat.le_of_ble_eq_true rfl, Nat.le_of_ble_eq_true rfl⟩) (va_recv hKM hPM (ci := 11) (q0 := 0) rfl rfl) hKM hPM hDM hS hA hPC hAp.sym rfl hl.1 rfl (Nat.le_of_ble_eq_true rfl) dL_law_463 ⟨show cells + 0 ≤ 600000 by omega, show slots + 0 ≤ 7302250 by omega⟩ (fun r2 ms2 H locs hw hPM hDM hS hPC hAp => ?_)
  obtain ⟨e2, e3⟩ := hw
  refine lv_icmp_eq (tgt := 1616) hx hb dL_law_466 (by decide) (fun _ => ?_) (fun hne => absurd (e1.trans e2.symm) hne)
  refine W.widen (k := cells + 4) (n := slots + 406) (by omega) (by omega) ?_
  exact kk cs1 ms2 H locs ⟨hPC, hDC, hPM, hDM, hAp.sym, hS, by rw [e3]; exact R1⟩
theorem lcase_7 (F : LF p m c s b L xs D cy gy A) (I : LI s A D h cy g gy cs ms H locs) (hl : lv_has ls 4 (LL b h g i)) (hi : i + 6 ≤ L) (hr : cells + 4 ≤ 600000 ∧ slots + 406 ≤ 7302250) (kk : ∀ (cs1 : CS) (ms1 : MS) (H1 : Heap) (locs1 : List Loc), LI s A D h cy g gy cs1 ms1 H1 locs1 → W p l e room_1 s m #[Value.ref b] below meth c H1 locs1 (cells + 4) (slots + 406) Q (F0 m 1616 ls [])) : W p l e room_1 s m #[Value.ref b] below meth c H locs cells slots Q (F0 m 471 ls []) := by
  obtain ⟨hx, hb, hml, hown, hts, hX, hbl, hbA, hA, hKC, hKM, hs, hL⟩ := F
  obtain ⟨hPC, hDC, hPM, hDM, hAp, hS, R⟩ := I
  obtain ⟨hr1, hr2⟩ := hr
  obtain ⟨r, ms1, hwr, hwc⟩ := s2_by R (xs (i + 1))
  refine lv_aload_n hx hb dL_law_471 rfl (lv_at hl 2 rfl) ?_
  refine la_arg (k := 1) hx hb hX hbl hbA hS (by omega) hL (lv_at hl 3 rfl) (lv_at hl 0 rfl) (by decide) dL_law_472 dL_law_473 dL_law_474 dL_law_475 dL_law_476 ?_
  refine lc_Vi (b := h 0) (As := [.int (xs (i + 1))]) (rest := []) (mc := 0) (ms := 0) (Y := wM g gy ms) clE_stable hs ⟨hx, hb, hml, hown, hts⟩ (cC_X11_by l D h cy _ _ _ hwc) (cwV 1 hts gL_law_X11_by rfl rfl rfl (by decide +kernel) ⟨Nat.le_of_ble_eq_true rfl, Nat.le_of_ble_eq_true rfl⟩) (va_recv hKC hPC (ci := 10) (q0 := 0) rfl rfl) hKC hPC hDC hS hA hPM hAp rfl hl.1 rfl (Nat.le_of_ble_eq_true rfl) dL_law_477 ⟨show cells + 0 ≤ 600000 by omega, show slots + 0 ≤ 7302250 by omega⟩ (fun r1 cs1 H locs hw hPC hDC hS hPM hAp => ?_)
  obtain ⟨e1, R1⟩ := hw
  refine lv_aload_n hx hb dL_law_480 rfl (lv_at hl 1 rfl) ?_
  refine la_arg (k := 1) hx hb hX hbl hbA hS (by omega) hL (lv_at hl 3 rfl) (lv_at hl 0 rfl) (by decide) dL_law_481 dL_law_482 dL_law_483 dL_law_484 dL_law_485 ?_
  refine lm_Vi (b := g 31) (As := [.int (xs (i + 1))]) (rest := [.int r1]) (Y := wC h cy cs1) ⟨hx, hb, hml, hown, hts⟩ (cM_by l D g gy _ _ _ hwr) (cwV 1 hts gL_law_X12_by rfl rfl rfl (by decide +kernel) ⟨Nat.le_of_ble_eq_true rfl, Nat.le_of_ble_eq_true rfl⟩) (va_recv hKM hPM (ci := 11) (q0 := 0) rfl rfl) hKM hPM hDM hS hA hPC hAp.sym rfl hl.1 rfl (Nat.le_of_ble_eq_true rfl) dL_law_486 ⟨show cells + 0 ≤ 600000 by omega, show slots + 0 ≤ 7302250 by omega⟩ (fun r2 ms2 H locs hw hPM hDM hS hPC hAp => ?_)
  obtain ⟨e2, e3⟩ := hw
  refine lv_icmp_eq (tgt := 1616) hx hb dL_law_489 (by decide) (fun _ => ?_) (fun hne => absurd (e1.trans e2.symm) hne)
  refine W.widen (k := cells + 4) (n := slots + 406) (by omega) (by omega) ?_
  exact kk cs1 ms2 H locs ⟨hPC, hDC, hPM, hDM, hAp.sym, hS, by rw [e3]; exact R1⟩
theorem lcase_8 (F : LF p m c s b L xs D cy gy A) (I : LI s A D h cy g gy cs ms H locs) (hl : lv_has ls 4 (LL b h g i)) (hi : i + 6 ≤ L) (hr : cells + 4 ≤ 600000 ∧ slots + 406 ≤ 7302250) (kk : ∀ (cs1 : CS) (ms1 : MS) (H1 : Heap) (locs1 : List Loc), LI s A D h cy g gy cs1 ms1 H1 locs1 → W p l e room_1 s m #[Value.ref b] below meth c H1 locs1 (cells + 4) (slots + 406) Q (F0 m 1616 ls [])) : W p l e room_1 s m #[Value.ref b] below meth c H locs cells slots Q (F0 m 494 ls []) := by
  obtain ⟨hx, hb, hml, hown, hts, hX, hbl, hbA, hA, hKC, hKM, hs, hL⟩ := F
  obtain ⟨hPC, hDC, hPM, hDM, hAp, hS, R⟩ := I
  obtain ⟨hr1, hr2⟩ := hr
  obtain ⟨r, ms1, hwr, hwc⟩ := s2_send R (xs (i + 1)) (xs (i + 2))
  refine lv_aload_n hx hb dL_law_494 rfl (lv_at hl 2 rfl) ?_
  refine la_arg (k := 1) hx hb hX hbl hbA hS (by omega) hL (lv_at hl 3 rfl) (lv_at hl 0 rfl) (by decide) dL_law_495 dL_law_496 dL_law_497 dL_law_498 dL_law_499 ?_
  refine la_arg (k := 2) hx hb hX hbl hbA hS (by omega) hL (lv_at hl 3 rfl) (lv_at hl 0 rfl) (by decide) dL_law_500 dL_law_501 dL_law_502 dL_law_503 dL_law_504 ?_
  refine lc_Vi (b := h 0) (As := [.int (xs (i + 1)), .int (xs (i + 2))]) (rest := []) (mc := 0) (ms := 0) (Y := wM g gy ms) clE_stable hs ⟨hx, hb, hml, hown, hts⟩ (cC_X11_send l D h cy _ _ _ _ hwc) (cwV 2 hts gL_law_X11_send rfl rfl rfl (by decide +kernel) ⟨Nat.le_of_ble_eq_true rfl, Nat.le_of_ble_eq_true rfl⟩) (va_recv hKC hPC (ci := 10) (q0 := 0) rfl rfl) hKC hPC hDC hS hA hPM hAp rfl hl.1 rfl (Nat.le_of_ble_eq_true rfl) dL_law_505 ⟨show cells + 0 ≤ 600000 by omega, show slots + 0 ≤ 7302250 by omega⟩ (fun r1 cs1 H locs hw hPC hDC hS hPM hAp => ?_)
  obtain ⟨e1, R1⟩ := hw
  refine lv_aload_n hx hb dL_law_508 rfl (lv_at hl 1 rfl) ?_
  refine la_arg (k := 1) hx hb hX hbl hbA hS (by omega) hL (lv_at hl 3 rfl) (lv_at hl 0 rfl) (by decide) dL_law_509 dL_law_510 dL_law_511 dL_law_512 dL_law_513 ?_
  refine la_arg (k := 2) hx hb hX hbl hbA hS (by omega) hL (lv_at hl 3 rfl) (lv_at hl 0 rfl) (by decide) dL_law_514 dL_law_515 dL_law_516 dL_law_517 dL_law_518 ?_
  refine lm_Vi (b := g 31) (As := [.int (xs (i + 1)), .int (xs (i + 2))]) (rest := [.int r1]) (Y := wC h cy cs1) ⟨hx, hb, hml, hown, hts⟩ (cM_send l D g gy _ _ _ _ hwr) (cwV 2 hts gL_law_X12_send rfl rfl rfl (by decide +kernel) ⟨Nat.le_of_ble_eq_true rfl, Nat.le_of_ble_eq_true rfl⟩) (va_recv hKM hPM (ci := 11) (q0 := 0) rfl rfl) hKM hPM hDM hS hA hPC hAp.sym rfl hl.1 rfl (Nat.le_of_ble_eq_true rfl) dL_law_519 ⟨show cells + 0 ≤ 600000 by omega, show slots + 0 ≤ 7302250 by omega⟩ (fun r2 ms2 H locs hw hPM hDM hS hPC hAp => ?_)
  obtain ⟨e2, e3⟩ := hw
  refine lv_icmp_eq (tgt := 1616) hx hb dL_law_522 (by decide) (fun _ => ?_) (fun hne => absurd (e1.trans e2.symm) hne)
  refine W.widen (k := cells + 4) (n := slots + 406) (by omega) (by omega) ?_
  exact kk cs1 ms2 H locs ⟨hPC, hDC, hPM, hDM, hAp.sym, hS, by rw [e3]; exact R1⟩
theorem lcase_9 (F : LF p m c s b L xs D cy gy A) (I : LI s A D h cy g gy cs ms H locs) (hl : lv_has ls 4 (LL b h g i)) (hi : i + 6 ≤ L) (hr : cells + 4 ≤ 600000 ∧ slots + 406 ≤ 7302250) (kk : ∀ (cs1 : CS) (ms1 : MS) (H1 : Heap) (locs1 : List Loc), LI s A D h cy g gy cs1 ms1 H1 locs1 → W p l e room_1 s m #[Value.ref b] below meth c H1 locs1 (cells + 4) (slots + 406) Q (F0 m 1616 ls [])) : W p l e room_1 s m #[Value.ref b] below meth c H locs cells slots Q (F0 m 527 ls []) := by
  obtain ⟨hx, hb, hml, hown, hts, hX, hbl, hbA, hA, hKC, hKM, hs, hL⟩ := F
  obtain ⟨hPC, hDC, hPM, hDM, hAp, hS, R⟩ := I
  obtain ⟨hr1, hr2⟩ := hr
  obtain ⟨r, ms1, hwr, hwc⟩ := s2_fall R (xs (i + 1)) (xs (i + 2))
  refine lv_aload_n hx hb dL_law_527 rfl (lv_at hl 2 rfl) ?_
  refine la_arg (k := 1) hx hb hX hbl hbA hS (by omega) hL (lv_at hl 3 rfl) (lv_at hl 0 rfl) (by decide) dL_law_528 dL_law_529 dL_law_530 dL_law_531 dL_law_532 ?_
  refine la_arg (k := 2) hx hb hX hbl hbA hS (by omega) hL (lv_at hl 3 rfl) (lv_at hl 0 rfl) (by decide) dL_law_533 dL_law_534 dL_law_535 dL_law_536 dL_law_537 ?_
  refine lc_Vi (b := h 0) (As := [.int (xs (i + 1)), .int (xs (i + 2))]) (rest := []) (mc := 0) (ms := 0) (Y := wM g gy ms) clE_stable hs ⟨hx, hb, hml, hown, hts⟩ (cC_X11_fall l D h cy _ _ _ _ hwc) (cwV 2 hts gL_law_X11_fall rfl rfl rfl (by decide +kernel) ⟨Nat.le_of_ble_eq_true rfl, Nat.le_of_ble_eq_true rfl⟩) (va_recv hKC hPC (ci := 10) (q0 := 0) rfl rfl) hKC hPC hDC hS hA hPM hAp rfl hl.1 rfl (Nat.le_of_ble_eq_true rfl) dL_law_538 ⟨show cells + 0 ≤ 600000 by omega, show slots + 0 ≤ 7302250 by omega⟩ (fun r1 cs1 H locs hw hPC hDC hS hPM hAp => ?_)
  obtain ⟨e1, R1⟩ := hw
  refine lv_aload_n hx hb dL_law_541 rfl (lv_at hl 1 rfl) ?_
  refine la_arg (k := 1) hx hb hX hbl hbA hS (by omega) hL (lv_at hl 3 rfl) (lv_at hl 0 rfl) (by decide) dL_law_542 dL_law_543 dL_law_544 dL_law_545 dL_law_546 ?_
  refine la_arg (k := 2) hx hb hX hbl hbA hS (by omega) hL (lv_at hl 3 rfl) (lv_at hl 0 rfl) (by decide) dL_law_547 dL_law_548 dL_law_549 dL_law_550 dL_law_551 ?_
  refine lm_Vi (b := g 31) (As := [.int (xs (i + 1)), .int (xs (i + 2))]) (rest := [.int r1]) (Y := wC h cy cs1) ⟨hx, hb, hml, hown, hts⟩ (cM_fall l D g gy _ _ _ _ hwr) (cwV 2 hts gL_law_X12_fall rfl rfl rfl (by decide +kernel) ⟨Nat.le_of_ble_eq_true rfl, Nat.le_of_ble_eq_true rfl⟩) (va_recv hKM hPM (ci := 11) (q0 := 0) rfl rfl) hKM hPM hDM hS hA hPC hAp.sym rfl hl.1 rfl (Nat.le_of_ble_eq_true rfl) dL_law_552 ⟨show cells + 0 ≤ 600000 by omega, show slots + 0 ≤ 7302250 by omega⟩ (fun r2 ms2 H locs hw hPM hDM hS hPC hAp => ?_)
  obtain ⟨e2, e3⟩ := hw
  refine lv_icmp_eq (tgt := 1616) hx hb dL_law_555 (by decide) (fun _ => ?_) (fun hne => absurd (e1.trans e2.symm) hne)
  refine W.widen (k := cells + 4) (n := slots + 406) (by omega) (by omega) ?_
  exact kk cs1 ms2 H locs ⟨hPC, hDC, hPM, hDM, hAp.sym, hS, by rw [e3]; exact R1⟩
theorem lcase_10 (F : LF p m c s b L xs D cy gy A) (I : LI s A D h cy g gy cs ms H locs) (hl : lv_has ls 4 (LL b h g i)) (hi : i + 6 ≤ L) (hr : cells + 4 ≤ 600000 ∧ slots + 406 ≤ 7302250) (kk : ∀ (cs1 : CS) (ms1 : MS) (H1 : Heap) (locs1 : List Loc), LI s A D h cy g gy cs1 ms1 H1 locs1 → W p l e room_1 s m #[Value.ref b] below meth c H1 locs1 (cells + 4) (slots + 406) Q (F0 m 1616 ls [])) : W p l e room_1 s m #[Value.ref b] below meth c H locs cells slots Q (F0 m 560 ls []) := by
  obtain ⟨hx, hb, hml, hown, hts, hX, hbl, hbA, hA, hKC, hKM, hs, hL⟩ := F
  obtain ⟨hPC, hDC, hPM, hDM, hAp, hS, R⟩ := I
  obtain ⟨hr1, hr2⟩ := hr
  obtain ⟨r, ms1, hwr, hwc⟩ := s2_rest R (xs (i + 1))
  refine lv_aload_n hx hb dL_law_560 rfl (lv_at hl 2 rfl) ?_
  refine la_arg (k := 1) hx hb hX hbl hbA hS (by omega) hL (lv_at hl 3 rfl) (lv_at hl 0 rfl) (by decide) dL_law_561 dL_law_562 dL_law_563 dL_law_564 dL_law_565 ?_
  refine lc_Vi (b := h 0) (As := [.int (xs (i + 1))]) (rest := []) (mc := 0) (ms := 0) (Y := wM g gy ms) clE_stable hs ⟨hx, hb, hml, hown, hts⟩ (cC_X11_rest l D h cy _ _ _ hwc) (cwV 1 hts gL_law_X11_rest rfl rfl rfl (by decide +kernel) ⟨Nat.le_of_ble_eq_true rfl, Nat.le_of_ble_eq_true rfl⟩) (va_recv hKC hPC (ci := 10) (q0 := 0) rfl rfl) hKC hPC hDC hS hA hPM hAp rfl hl.1 rfl (Nat.le_of_ble_eq_true rfl) dL_law_566 ⟨show cells + 0 ≤ 600000 by omega, show slots + 0 ≤ 7302250 by omega⟩ (fun r1 cs1 H locs hw hPC hDC hS hPM hAp => ?_)
  obtain ⟨e1, R1⟩ := hw
  refine lv_aload_n hx hb dL_law_569 rfl (lv_at hl 1 rfl) ?_
  refine la_arg (k := 1) hx hb hX hbl hbA hS (by omega) hL (lv_at hl 3 rfl) (lv_at hl 0 rfl) (by decide) dL_law_570 dL_law_571 dL_law_572 dL_law_573 dL_law_574 ?_
  refine lm_Vi (b := g 31) (As := [.int (xs (i + 1))]) (rest := [.int r1]) (Y := wC h cy cs1) ⟨hx, hb, hml, hown, hts⟩ (cM_rest l D g gy _ _ _ hwr) (cwV 1 hts gL_law_X12_rest rfl rfl rfl (by decide +kernel) ⟨Nat.le_of_ble_eq_true rfl, Nat.le_of_ble_eq_true rfl⟩) (va_recv hKM hPM (ci := 11) (q0 := 0) rfl rfl) hKM hPM hDM hS hA hPC hAp.sym rfl hl.1 rfl (Nat.le_of_ble_eq_true rfl) dL_law_575 ⟨show cells + 0 ≤ 600000 by omega, show slots + 0 ≤ 7302250 by omega⟩ (fun r2 ms2 H locs hw hPM hDM hS hPC hAp => ?_)
  obtain ⟨e2, e3⟩ := hw
  refine lv_icmp_eq (tgt := 1616) hx hb dL_law_578 (by decide) (fun _ => ?_) (fun hne => absurd (e1.trans e2.symm) hne)
  refine W.widen (k := cells + 4) (n := slots + 406) (by omega) (by omega) ?_
  exact kk cs1 ms2 H locs ⟨hPC, hDC, hPM, hDM, hAp.sym, hS, by rw [e3]; exact R1⟩
theorem lcase_11 (F : LF p m c s b L xs D cy gy A) (I : LI s A D h cy g gy cs ms H locs) (hl : lv_has ls 4 (LL b h g i)) (hi : i + 6 ≤ L) (hr : cells + 4 ≤ 600000 ∧ slots + 406 ≤ 7302250) (kk : ∀ (cs1 : CS) (ms1 : MS) (H1 : Heap) (locs1 : List Loc), LI s A D h cy g gy cs1 ms1 H1 locs1 → W p l e room_1 s m #[Value.ref b] below meth c H1 locs1 (cells + 4) (slots + 406) Q (F0 m 1616 ls [])) : W p l e room_1 s m #[Value.ref b] below meth c H locs cells slots Q (F0 m 583 ls []) := by
  obtain ⟨hx, hb, hml, hown, hts, hX, hbl, hbA, hA, hKC, hKM, hs, hL⟩ := F
  obtain ⟨hPC, hDC, hPM, hDM, hAp, hS, R⟩ := I
  obtain ⟨hr1, hr2⟩ := hr
  obtain ⟨r, ms1, hwr, hwc⟩ := s2_day R (xs (i + 1))
  refine lv_aload_n hx hb dL_law_583 rfl (lv_at hl 2 rfl) ?_
  refine la_arg (k := 1) hx hb hX hbl hbA hS (by omega) hL (lv_at hl 3 rfl) (lv_at hl 0 rfl) (by decide) dL_law_584 dL_law_585 dL_law_586 dL_law_587 dL_law_588 ?_
  refine lc_Vi (b := h 0) (As := [.int (xs (i + 1))]) (rest := []) (mc := 0) (ms := 0) (Y := wM g gy ms) clE_stable hs ⟨hx, hb, hml, hown, hts⟩ (cC_X11_day l D h cy _ _ _ hwc) (cwV 1 hts gL_law_X11_day rfl rfl rfl (by decide +kernel) ⟨Nat.le_of_ble_eq_true rfl, Nat.le_of_ble_eq_true rfl⟩) (va_recv hKC hPC (ci := 10) (q0 := 0) rfl rfl) hKC hPC hDC hS hA hPM hAp rfl hl.1 rfl (Nat.le_of_ble_eq_true rfl) dL_law_589 ⟨show cells + 0 ≤ 600000 by omega, show slots + 0 ≤ 7302250 by omega⟩ (fun r1 cs1 H locs hw hPC hDC hS hPM hAp => ?_)
  obtain ⟨e1, R1⟩ := hw
  refine lv_aload_n hx hb dL_law_592 rfl (lv_at hl 1 rfl) ?_
  refine la_arg (k := 1) hx hb hX hbl hbA hS (by omega) hL (lv_at hl 3 rfl) (lv_at hl 0 rfl) (by decide) dL_law_593 dL_law_594 dL_law_595 dL_law_596 dL_law_597 ?_
  refine lm_Vi (b := g 31) (As := [.int (xs (i + 1))]) (rest := [.int r1]) (Y := wC h cy cs1) ⟨hx, hb, hml, hown, hts⟩ (cM_day l D g gy _ _ _ hwr) (cwV 1 hts gL_law_X12_day rfl rfl rfl (by decide +kernel) ⟨Nat.le_of_ble_eq_true rfl, Nat.le_of_ble_eq_true rfl⟩) (va_recv hKM hPM (ci := 11) (q0 := 0) rfl rfl) hKM hPM hDM hS hA hPC hAp.sym rfl hl.1 rfl (Nat.le_of_ble_eq_true rfl) dL_law_598 ⟨show cells + 0 ≤ 600000 by omega, show slots + 0 ≤ 7302250 by omega⟩ (fun r2 ms2 H locs hw hPM hDM hS hPC hAp => ?_)
  obtain ⟨e2, e3⟩ := hw
  refine lv_icmp_eq (tgt := 1616) hx hb dL_law_601 (by decide) (fun _ => ?_) (fun hne => absurd (e1.trans e2.symm) hne)
  refine W.widen (k := cells + 4) (n := slots + 406) (by omega) (by omega) ?_
  exact kk cs1 ms2 H locs ⟨hPC, hDC, hPM, hDM, hAp.sym, hS, by rw [e3]; exact R1⟩
theorem lcase_12 (F : LF p m c s b L xs D cy gy A) (I : LI s A D h cy g gy cs ms H locs) (hl : lv_has ls 4 (LL b h g i)) (hi : i + 6 ≤ L) (hr : cells + 4 ≤ 600000 ∧ slots + 406 ≤ 7302250) (kk : ∀ (cs1 : CS) (ms1 : MS) (H1 : Heap) (locs1 : List Loc), LI s A D h cy g gy cs1 ms1 H1 locs1 → W p l e room_1 s m #[Value.ref b] below meth c H1 locs1 (cells + 4) (slots + 406) Q (F0 m 1616 ls [])) : W p l e room_1 s m #[Value.ref b] below meth c H locs cells slots Q (F0 m 606 ls []) := by
  obtain ⟨hx, hb, hml, hown, hts, hX, hbl, hbA, hA, hKC, hKM, hs, hL⟩ := F
  obtain ⟨hPC, hDC, hPM, hDM, hAp, hS, R⟩ := I
  obtain ⟨hr1, hr2⟩ := hr
  obtain ⟨r, ms1, hwr, hwc⟩ := s2_played R (xs (i + 1))
  refine lv_aload_n hx hb dL_law_606 rfl (lv_at hl 2 rfl) ?_
  refine la_arg (k := 1) hx hb hX hbl hbA hS (by omega) hL (lv_at hl 3 rfl) (lv_at hl 0 rfl) (by decide) dL_law_607 dL_law_608 dL_law_609 dL_law_610 dL_law_611 ?_
  refine lc_Vi (b := h 0) (As := [.int (xs (i + 1))]) (rest := []) (mc := 0) (ms := 0) (Y := wM g gy ms) clE_stable hs ⟨hx, hb, hml, hown, hts⟩ (cC_X11_played l D h cy _ _ _ hwc) (cwV 1 hts gL_law_X11_played rfl rfl rfl (by decide +kernel) ⟨Nat.le_of_ble_eq_true rfl, Nat.le_of_ble_eq_true rfl⟩) (va_recv hKC hPC (ci := 10) (q0 := 0) rfl rfl) hKC hPC hDC hS hA hPM hAp rfl hl.1 rfl (Nat.le_of_ble_eq_true rfl) dL_law_612 ⟨show cells + 0 ≤ 600000 by omega, show slots + 0 ≤ 7302250 by omega⟩ (fun r1 cs1 H locs hw hPC hDC hS hPM hAp => ?_)
  obtain ⟨e1, R1⟩ := hw
  refine lv_aload_n hx hb dL_law_615 rfl (lv_at hl 1 rfl) ?_
  refine la_arg (k := 1) hx hb hX hbl hbA hS (by omega) hL (lv_at hl 3 rfl) (lv_at hl 0 rfl) (by decide) dL_law_616 dL_law_617 dL_law_618 dL_law_619 dL_law_620 ?_
  refine lm_Vi (b := g 31) (As := [.int (xs (i + 1))]) (rest := [.int r1]) (Y := wC h cy cs1) ⟨hx, hb, hml, hown, hts⟩ (cM_played l D g gy _ _ _ hwr) (cwV 1 hts gL_law_X12_played rfl rfl rfl (by decide +kernel) ⟨Nat.le_of_ble_eq_true rfl, Nat.le_of_ble_eq_true rfl⟩) (va_recv hKM hPM (ci := 11) (q0 := 0) rfl rfl) hKM hPM hDM hS hA hPC hAp.sym rfl hl.1 rfl (Nat.le_of_ble_eq_true rfl) dL_law_621 ⟨show cells + 0 ≤ 600000 by omega, show slots + 0 ≤ 7302250 by omega⟩ (fun r2 ms2 H locs hw hPM hDM hS hPC hAp => ?_)
  obtain ⟨e2, e3⟩ := hw
  refine lv_icmp_eq (tgt := 1616) hx hb dL_law_624 (by decide) (fun _ => ?_) (fun hne => absurd (e1.trans e2.symm) hne)
  refine W.widen (k := cells + 4) (n := slots + 406) (by omega) (by omega) ?_
  exact kk cs1 ms2 H locs ⟨hPC, hDC, hPM, hDM, hAp.sym, hS, by rw [e3]; exact R1⟩
theorem lcase_13 (F : LF p m c s b L xs D cy gy A) (I : LI s A D h cy g gy cs ms H locs) (hl : lv_has ls 4 (LL b h g i)) (hi : i + 6 ≤ L) (hr : cells + 4 ≤ 600000 ∧ slots + 406 ≤ 7302250) (kk : ∀ (cs1 : CS) (ms1 : MS) (H1 : Heap) (locs1 : List Loc), LI s A D h cy g gy cs1 ms1 H1 locs1 → W p l e room_1 s m #[Value.ref b] below meth c H1 locs1 (cells + 4) (slots + 406) Q (F0 m 1616 ls [])) : W p l e room_1 s m #[Value.ref b] below meth c H locs cells slots Q (F0 m 629 ls []) := by
  obtain ⟨hx, hb, hml, hown, hts, hX, hbl, hbA, hA, hKC, hKM, hs, hL⟩ := F
  obtain ⟨hPC, hDC, hPM, hDM, hAp, hS, R⟩ := I
  obtain ⟨hr1, hr2⟩ := hr
  obtain ⟨r, ms1, hwr, hwc⟩ := s2_decades R (xs (i + 1)) (xs (i + 2))
  refine lv_aload_n hx hb dL_law_629 rfl (lv_at hl 2 rfl) ?_
  refine la_arg (k := 1) hx hb hX hbl hbA hS (by omega) hL (lv_at hl 3 rfl) (lv_at hl 0 rfl) (by decide) dL_law_630 dL_law_631 dL_law_632 dL_law_633 dL_law_634 ?_
  refine la_arg (k := 2) hx hb hX hbl hbA hS (by omega) hL (lv_at hl 3 rfl) (lv_at hl 0 rfl) (by decide) dL_law_635 dL_law_636 dL_law_637 dL_law_638 dL_law_639 ?_
  refine lc_Vi (b := h 0) (As := [.int (xs (i + 1)), .int (xs (i + 2))]) (rest := []) (mc := 0) (ms := 0) (Y := wM g gy ms) clE_stable hs ⟨hx, hb, hml, hown, hts⟩ (cC_X11_decades l D h cy _ _ _ _ hwc) (cwV 2 hts gL_law_X11_decades rfl rfl rfl (by decide +kernel) ⟨Nat.le_of_ble_eq_true rfl, Nat.le_of_ble_eq_true rfl⟩) (va_recv hKC hPC (ci := 10) (q0 := 0) rfl rfl) hKC hPC hDC hS hA hPM hAp rfl hl.1 rfl (Nat.le_of_ble_eq_true rfl) dL_law_640 ⟨show cells + 0 ≤ 600000 by omega, show slots + 0 ≤ 7302250 by omega⟩ (fun r1 cs1 H locs hw hPC hDC hS hPM hAp => ?_)
  obtain ⟨e1, R1⟩ := hw
  refine lv_aload_n hx hb dL_law_643 rfl (lv_at hl 1 rfl) ?_
  refine la_arg (k := 1) hx hb hX hbl hbA hS (by omega) hL (lv_at hl 3 rfl) (lv_at hl 0 rfl) (by decide) dL_law_644 dL_law_645 dL_law_646 dL_law_647 dL_law_648 ?_
  refine la_arg (k := 2) hx hb hX hbl hbA hS (by omega) hL (lv_at hl 3 rfl) (lv_at hl 0 rfl) (by decide) dL_law_649 dL_law_650 dL_law_651 dL_law_652 dL_law_653 ?_
  refine lm_Vi (b := g 31) (As := [.int (xs (i + 1)), .int (xs (i + 2))]) (rest := [.int r1]) (Y := wC h cy cs1) ⟨hx, hb, hml, hown, hts⟩ (cM_decades l D g gy _ _ _ _ hwr) (cwV 2 hts gL_law_X12_decades rfl rfl rfl (by decide +kernel) ⟨Nat.le_of_ble_eq_true rfl, Nat.le_of_ble_eq_true rfl⟩) (va_recv hKM hPM (ci := 11) (q0 := 0) rfl rfl) hKM hPM hDM hS hA hPC hAp.sym rfl hl.1 rfl (Nat.le_of_ble_eq_true rfl) dL_law_654 ⟨show cells + 0 ≤ 600000 by omega, show slots + 0 ≤ 7302250 by omega⟩ (fun r2 ms2 H locs hw hPM hDM hS hPC hAp => ?_)
  obtain ⟨e2, e3⟩ := hw
  refine lv_icmp_eq (tgt := 1616) hx hb dL_law_657 (by decide) (fun _ => ?_) (fun hne => absurd (e1.trans e2.symm) hne)
  refine W.widen (k := cells + 4) (n := slots + 406) (by omega) (by omega) ?_
  exact kk cs1 ms2 H locs ⟨hPC, hDC, hPM, hDM, hAp.sym, hS, by rw [e3]; exact R1⟩
theorem lcase_14 (F : LF p m c s b L xs D cy gy A) (I : LI s A D h cy g gy cs ms H locs) (hl : lv_has ls 4 (LL b h g i)) (hi : i + 6 ≤ L) (hr : cells + 4 ≤ 600000 ∧ slots + 406 ≤ 7302250) (kk : ∀ (cs1 : CS) (ms1 : MS) (H1 : Heap) (locs1 : List Loc), LI s A D h cy g gy cs1 ms1 H1 locs1 → W p l e room_1 s m #[Value.ref b] below meth c H1 locs1 (cells + 4) (slots + 406) Q (F0 m 1616 ls [])) : W p l e room_1 s m #[Value.ref b] below meth c H locs cells slots Q (F0 m 662 ls []) := by
  obtain ⟨hx, hb, hml, hown, hts, hX, hbl, hbA, hA, hKC, hKM, hs, hL⟩ := F
  obtain ⟨hPC, hDC, hPM, hDM, hAp, hS, R⟩ := I
  obtain ⟨hr1, hr2⟩ := hr
  obtain ⟨r, ms1, hwr, hwc⟩ := s2_undo R
  refine lv_aload_n hx hb dL_law_662 rfl (lv_at hl 2 rfl) ?_
  refine lc_Vi (b := h 0) (As := []) (rest := []) (mc := 0) (ms := 0) (Y := wM g gy ms) clE_stable hs ⟨hx, hb, hml, hown, hts⟩ (cC_X11_undo l D h cy _ _ hwc) (cwV 0 hts gL_law_X11_undo rfl rfl rfl (by decide +kernel) ⟨Nat.le_of_ble_eq_true rfl, Nat.le_of_ble_eq_true rfl⟩) (va_recv hKC hPC (ci := 10) (q0 := 0) rfl rfl) hKC hPC hDC hS hA hPM hAp rfl hl.1 rfl (Nat.le_of_ble_eq_true rfl) dL_law_663 ⟨show cells + 0 ≤ 600000 by omega, show slots + 0 ≤ 7302250 by omega⟩ (fun r1 cs1 H locs hw hPC hDC hS hPM hAp => ?_)
  obtain ⟨e1, R1⟩ := hw
  refine lv_aload_n hx hb dL_law_666 rfl (lv_at hl 1 rfl) ?_
  refine lm_Vi (b := g 31) (As := []) (rest := [.int r1]) (Y := wC h cy cs1) ⟨hx, hb, hml, hown, hts⟩ (cM_undo l D g gy _ _ hwr) (cwV 0 hts gL_law_X12_undo rfl rfl rfl (by decide +kernel) ⟨Nat.le_of_ble_eq_true rfl, Nat.le_of_ble_eq_true rfl⟩) (va_recv hKM hPM (ci := 11) (q0 := 0) rfl rfl) hKM hPM hDM hS hA hPC hAp.sym rfl hl.1 rfl (Nat.le_of_ble_eq_true rfl) dL_law_667 ⟨show cells + 0 ≤ 600000 by omega, show slots + 0 ≤ 7302250 by omega⟩ (fun r2 ms2 H locs hw hPM hDM hS hPC hAp => ?_)
  obtain ⟨e2, e3⟩ := hw
  refine lv_icmp_eq (tgt := 1616) hx hb dL_law_670 (by decide) (fun _ => ?_) (fun hne => absurd (e1.trans e2.symm) hne)
  refine W.widen (k := cells + 4) (n := slots + 406) (by omega) (by omega) ?_
  exact kk cs1 ms2 H locs ⟨hPC, hDC, hPM, hDM, hAp.sym, hS, by rw [e3]; exact R1⟩
theorem lcase_15 (F : LF p m c s b L xs D cy gy A) (I : LI s A D h cy g gy cs ms H locs) (hl : lv_has ls 4 (LL b h g i)) (hi : i + 6 ≤ L) (hr : cells + 4 ≤ 600000 ∧ slots + 406 ≤ 7302250) (kk : ∀ (cs1 : CS) (ms1 : MS) (H1 : Heap) (locs1 : List Loc), LI s A D h cy g gy cs1 ms1 H1 locs1 → W p l e room_1 s m #[Value.ref b] below meth c H1 locs1 (cells + 4) (slots + 406) Q (F0 m 1616 ls [])) : W p l e room_1 s m #[Value.ref b] below meth c H locs cells slots Q (F0 m 675 ls []) := by
  obtain ⟨hx, hb, hml, hown, hts, hX, hbl, hbA, hA, hKC, hKM, hs, hL⟩ := F
  obtain ⟨hPC, hDC, hPM, hDM, hAp, hS, R⟩ := I
  obtain ⟨hr1, hr2⟩ := hr
  obtain ⟨r, ms1, hwr, hwc⟩ := s2_of R (xs (i + 1)) (xs (i + 2))
  refine lv_aload_n hx hb dL_law_675 rfl (lv_at hl 2 rfl) ?_
  refine la_arg (k := 1) hx hb hX hbl hbA hS (by omega) hL (lv_at hl 3 rfl) (lv_at hl 0 rfl) (by decide) dL_law_676 dL_law_677 dL_law_678 dL_law_679 dL_law_680 ?_
  refine la_arg (k := 2) hx hb hX hbl hbA hS (by omega) hL (lv_at hl 3 rfl) (lv_at hl 0 rfl) (by decide) dL_law_681 dL_law_682 dL_law_683 dL_law_684 dL_law_685 ?_
  refine lc_Vi (b := h 0) (As := [.int (xs (i + 1)), .int (xs (i + 2))]) (rest := []) (mc := 0) (ms := 0) (Y := wM g gy ms) clE_stable hs ⟨hx, hb, hml, hown, hts⟩ (cC_X11_of l D h cy _ _ _ _ hwc) (cwV 2 hts gL_law_X11_of rfl rfl rfl (by decide +kernel) ⟨Nat.le_of_ble_eq_true rfl, Nat.le_of_ble_eq_true rfl⟩) (va_recv hKC hPC (ci := 10) (q0 := 0) rfl rfl) hKC hPC hDC hS hA hPM hAp rfl hl.1 rfl (Nat.le_of_ble_eq_true rfl) dL_law_686 ⟨show cells + 0 ≤ 600000 by omega, show slots + 0 ≤ 7302250 by omega⟩ (fun r1 cs1 H locs hw hPC hDC hS hPM hAp => ?_)
  obtain ⟨e1, R1⟩ := hw
  refine lv_aload_n hx hb dL_law_689 rfl (lv_at hl 1 rfl) ?_
  refine la_arg (k := 1) hx hb hX hbl hbA hS (by omega) hL (lv_at hl 3 rfl) (lv_at hl 0 rfl) (by decide) dL_law_690 dL_law_691 dL_law_692 dL_law_693 dL_law_694 ?_
  refine la_arg (k := 2) hx hb hX hbl hbA hS (by omega) hL (lv_at hl 3 rfl) (lv_at hl 0 rfl) (by decide) dL_law_695 dL_law_696 dL_law_697 dL_law_698 dL_law_699 ?_
  refine lm_Vi (b := g 31) (As := [.int (xs (i + 1)), .int (xs (i + 2))]) (rest := [.int r1]) (Y := wC h cy cs1) ⟨hx, hb, hml, hown, hts⟩ (cM_of l D g gy _ _ _ _ hwr) (cwV 2 hts gL_law_X12_of rfl rfl rfl (by decide +kernel) ⟨Nat.le_of_ble_eq_true rfl, Nat.le_of_ble_eq_true rfl⟩) (va_recv hKM hPM (ci := 11) (q0 := 0) rfl rfl) hKM hPM hDM hS hA hPC hAp.sym rfl hl.1 rfl (Nat.le_of_ble_eq_true rfl) dL_law_700 ⟨show cells + 0 ≤ 600000 by omega, show slots + 0 ≤ 7302250 by omega⟩ (fun r2 ms2 H locs hw hPM hDM hS hPC hAp => ?_)
  obtain ⟨e2, e3⟩ := hw
  refine lv_icmp_eq (tgt := 1616) hx hb dL_law_703 (by decide) (fun _ => ?_) (fun hne => absurd (e1.trans e2.symm) hne)
  refine W.widen (k := cells + 4) (n := slots + 406) (by omega) (by omega) ?_
  exact kk cs1 ms2 H locs ⟨hPC, hDC, hPM, hDM, hAp.sym, hS, by rw [e3]; exact R1⟩
theorem lcase_16 (F : LF p m c s b L xs D cy gy A) (I : LI s A D h cy g gy cs ms H locs) (hl : lv_has ls 4 (LL b h g i)) (hi : i + 6 ≤ L) (hr : cells + 4 ≤ 600000 ∧ slots + 406 ≤ 7302250) (kk : ∀ (cs1 : CS) (ms1 : MS) (H1 : Heap) (locs1 : List Loc), LI s A D h cy g gy cs1 ms1 H1 locs1 → W p l e room_1 s m #[Value.ref b] below meth c H1 locs1 (cells + 4) (slots + 406) Q (F0 m 1616 ls [])) : W p l e room_1 s m #[Value.ref b] below meth c H locs cells slots Q (F0 m 708 ls []) := by
  obtain ⟨hx, hb, hml, hown, hts, hX, hbl, hbA, hA, hKC, hKM, hs, hL⟩ := F
  obtain ⟨hPC, hDC, hPM, hDM, hAp, hS, R⟩ := I
  obtain ⟨hr1, hr2⟩ := hr
  obtain ⟨r, ms1, hwr, hwc⟩ := s2_ofClown R (xs (i + 1)) (xs (i + 2))
  refine lv_aload_n hx hb dL_law_708 rfl (lv_at hl 2 rfl) ?_
  refine la_arg (k := 1) hx hb hX hbl hbA hS (by omega) hL (lv_at hl 3 rfl) (lv_at hl 0 rfl) (by decide) dL_law_709 dL_law_710 dL_law_711 dL_law_712 dL_law_713 ?_
  refine la_arg (k := 2) hx hb hX hbl hbA hS (by omega) hL (lv_at hl 3 rfl) (lv_at hl 0 rfl) (by decide) dL_law_714 dL_law_715 dL_law_716 dL_law_717 dL_law_718 ?_
  refine lc_Vi (b := h 0) (As := [.int (xs (i + 1)), .int (xs (i + 2))]) (rest := []) (mc := 0) (ms := 0) (Y := wM g gy ms) clE_stable hs ⟨hx, hb, hml, hown, hts⟩ (cC_X11_ofClown l D h cy _ _ _ _ hwc) (cwV 2 hts gL_law_X11_ofClown rfl rfl rfl (by decide +kernel) ⟨Nat.le_of_ble_eq_true rfl, Nat.le_of_ble_eq_true rfl⟩) (va_recv hKC hPC (ci := 10) (q0 := 0) rfl rfl) hKC hPC hDC hS hA hPM hAp rfl hl.1 rfl (Nat.le_of_ble_eq_true rfl) dL_law_719 ⟨show cells + 0 ≤ 600000 by omega, show slots + 0 ≤ 7302250 by omega⟩ (fun r1 cs1 H locs hw hPC hDC hS hPM hAp => ?_)
  obtain ⟨e1, R1⟩ := hw
  refine lv_aload_n hx hb dL_law_722 rfl (lv_at hl 1 rfl) ?_
  refine la_arg (k := 1) hx hb hX hbl hbA hS (by omega) hL (lv_at hl 3 rfl) (lv_at hl 0 rfl) (by decide) dL_law_723 dL_law_724 dL_law_725 dL_law_726 dL_law_727 ?_
  refine la_arg (k := 2) hx hb hX hbl hbA hS (by omega) hL (lv_at hl 3 rfl) (lv_at hl 0 rfl) (by decide) dL_law_728 dL_law_729 dL_law_730 dL_law_731 dL_law_732 ?_
  refine lm_Vi (b := g 31) (As := [.int (xs (i + 1)), .int (xs (i + 2))]) (rest := [.int r1]) (Y := wC h cy cs1) ⟨hx, hb, hml, hown, hts⟩ (cM_ofClown l D g gy _ _ _ _ hwr) (cwV 2 hts gL_law_X12_ofClown rfl rfl rfl (by decide +kernel) ⟨Nat.le_of_ble_eq_true rfl, Nat.le_of_ble_eq_true rfl⟩) (va_recv hKM hPM (ci := 11) (q0 := 0) rfl rfl) hKM hPM hDM hS hA hPC hAp.sym rfl hl.1 rfl (Nat.le_of_ble_eq_true rfl) dL_law_733 ⟨show cells + 0 ≤ 600000 by omega, show slots + 0 ≤ 7302250 by omega⟩ (fun r2 ms2 H locs hw hPM hDM hS hPC hAp => ?_)
  obtain ⟨e2, e3⟩ := hw
  refine lv_icmp_eq (tgt := 1616) hx hb dL_law_736 (by decide) (fun _ => ?_) (fun hne => absurd (e1.trans e2.symm) hne)
  refine W.widen (k := cells + 4) (n := slots + 406) (by omega) (by omega) ?_
  exact kk cs1 ms2 H locs ⟨hPC, hDC, hPM, hDM, hAp.sym, hS, by rw [e3]; exact R1⟩
theorem lcase_17 (F : LF p m c s b L xs D cy gy A) (I : LI s A D h cy g gy cs ms H locs) (hl : lv_has ls 4 (LL b h g i)) (hi : i + 6 ≤ L) (hr : cells + 4 ≤ 600000 ∧ slots + 406 ≤ 7302250) (kk : ∀ (cs1 : CS) (ms1 : MS) (H1 : Heap) (locs1 : List Loc), LI s A D h cy g gy cs1 ms1 H1 locs1 → W p l e room_1 s m #[Value.ref b] below meth c H1 locs1 (cells + 4) (slots + 406) Q (F0 m 1616 ls [])) : W p l e room_1 s m #[Value.ref b] below meth c H locs cells slots Q (F0 m 741 ls []) := by
  obtain ⟨hx, hb, hml, hown, hts, hX, hbl, hbA, hA, hKC, hKM, hs, hL⟩ := F
  obtain ⟨hPC, hDC, hPM, hDM, hAp, hS, R⟩ := I
  obtain ⟨hr1, hr2⟩ := hr
  obtain ⟨r, ms1, hwr, hwc⟩ := s2_eased R (xs (i + 1)) (xs (i + 2))
  refine lv_aload_n hx hb dL_law_741 rfl (lv_at hl 2 rfl) ?_
  refine la_arg (k := 1) hx hb hX hbl hbA hS (by omega) hL (lv_at hl 3 rfl) (lv_at hl 0 rfl) (by decide) dL_law_742 dL_law_743 dL_law_744 dL_law_745 dL_law_746 ?_
  refine la_arg (k := 2) hx hb hX hbl hbA hS (by omega) hL (lv_at hl 3 rfl) (lv_at hl 0 rfl) (by decide) dL_law_747 dL_law_748 dL_law_749 dL_law_750 dL_law_751 ?_
  refine lc_Vi (b := h 0) (As := [.int (xs (i + 1)), .int (xs (i + 2))]) (rest := []) (mc := 0) (ms := 0) (Y := wM g gy ms) clE_stable hs ⟨hx, hb, hml, hown, hts⟩ (cC_X11_eased l D h cy _ _ _ _ hwc) (cwV 2 hts gL_law_X11_eased rfl rfl rfl (by decide +kernel) ⟨Nat.le_of_ble_eq_true rfl, Nat.le_of_ble_eq_true rfl⟩) (va_recv hKC hPC (ci := 10) (q0 := 0) rfl rfl) hKC hPC hDC hS hA hPM hAp rfl hl.1 rfl (Nat.le_of_ble_eq_true rfl) dL_law_752 ⟨show cells + 0 ≤ 600000 by omega, show slots + 0 ≤ 7302250 by omega⟩ (fun r1 cs1 H locs hw hPC hDC hS hPM hAp => ?_)
  obtain ⟨e1, R1⟩ := hw
  refine lv_aload_n hx hb dL_law_755 rfl (lv_at hl 1 rfl) ?_
  refine la_arg (k := 1) hx hb hX hbl hbA hS (by omega) hL (lv_at hl 3 rfl) (lv_at hl 0 rfl) (by decide) dL_law_756 dL_law_757 dL_law_758 dL_law_759 dL_law_760 ?_
  refine la_arg (k := 2) hx hb hX hbl hbA hS (by omega) hL (lv_at hl 3 rfl) (lv_at hl 0 rfl) (by decide) dL_law_761 dL_law_762 dL_law_763 dL_law_764 dL_law_765 ?_
  refine lm_Vi (b := g 31) (As := [.int (xs (i + 1)), .int (xs (i + 2))]) (rest := [.int r1]) (Y := wC h cy cs1) ⟨hx, hb, hml, hown, hts⟩ (cM_eased l D g gy _ _ _ _ hwr) (cwV 2 hts gL_law_X12_eased rfl rfl rfl (by decide +kernel) ⟨Nat.le_of_ble_eq_true rfl, Nat.le_of_ble_eq_true rfl⟩) (va_recv hKM hPM (ci := 11) (q0 := 0) rfl rfl) hKM hPM hDM hS hA hPC hAp.sym rfl hl.1 rfl (Nat.le_of_ble_eq_true rfl) dL_law_766 ⟨show cells + 0 ≤ 600000 by omega, show slots + 0 ≤ 7302250 by omega⟩ (fun r2 ms2 H locs hw hPM hDM hS hPC hAp => ?_)
  obtain ⟨e2, e3⟩ := hw
  refine lv_icmp_eq (tgt := 1616) hx hb dL_law_769 (by decide) (fun _ => ?_) (fun hne => absurd (e1.trans e2.symm) hne)
  refine W.widen (k := cells + 4) (n := slots + 406) (by omega) (by omega) ?_
  exact kk cs1 ms2 H locs ⟨hPC, hDC, hPM, hDM, hAp.sym, hS, by rw [e3]; exact R1⟩
theorem lcase_18 (F : LF p m c s b L xs D cy gy A) (I : LI s A D h cy g gy cs ms H locs) (hl : lv_has ls 4 (LL b h g i)) (hi : i + 6 ≤ L) (hr : cells + 4 ≤ 600000 ∧ slots + 406 ≤ 7302250) (kk : ∀ (cs1 : CS) (ms1 : MS) (H1 : Heap) (locs1 : List Loc), LI s A D h cy g gy cs1 ms1 H1 locs1 → W p l e room_1 s m #[Value.ref b] below meth c H1 locs1 (cells + 4) (slots + 406) Q (F0 m 1616 ls [])) : W p l e room_1 s m #[Value.ref b] below meth c H locs cells slots Q (F0 m 774 ls []) := by
  obtain ⟨hx, hb, hml, hown, hts, hX, hbl, hbA, hA, hKC, hKM, hs, hL⟩ := F
  obtain ⟨hPC, hDC, hPM, hDM, hAp, hS, R⟩ := I
  obtain ⟨hr1, hr2⟩ := hr
  obtain ⟨r, ms1, hwr, hwc⟩ := s2_laughs R (xs (i + 1)) (xs (i + 2))
  refine lv_aload_n hx hb dL_law_774 rfl (lv_at hl 2 rfl) ?_
  refine la_arg (k := 1) hx hb hX hbl hbA hS (by omega) hL (lv_at hl 3 rfl) (lv_at hl 0 rfl) (by decide) dL_law_775 dL_law_776 dL_law_777 dL_law_778 dL_law_779 ?_
  refine la_arg (k := 2) hx hb hX hbl hbA hS (by omega) hL (lv_at hl 3 rfl) (lv_at hl 0 rfl) (by decide) dL_law_780 dL_law_781 dL_law_782 dL_law_783 dL_law_784 ?_
  refine lc_Vi (b := h 0) (As := [.int (xs (i + 1)), .int (xs (i + 2))]) (rest := []) (mc := 0) (ms := 0) (Y := wM g gy ms) clE_stable hs ⟨hx, hb, hml, hown, hts⟩ (cC_X11_laughs l D h cy _ _ _ _ hwc) (cwV 2 hts gL_law_X11_laughs rfl rfl rfl (by decide +kernel) ⟨Nat.le_of_ble_eq_true rfl, Nat.le_of_ble_eq_true rfl⟩) (va_recv hKC hPC (ci := 10) (q0 := 0) rfl rfl) hKC hPC hDC hS hA hPM hAp rfl hl.1 rfl (Nat.le_of_ble_eq_true rfl) dL_law_785 ⟨show cells + 0 ≤ 600000 by omega, show slots + 0 ≤ 7302250 by omega⟩ (fun r1 cs1 H locs hw hPC hDC hS hPM hAp => ?_)
  obtain ⟨e1, R1⟩ := hw
  refine lv_aload_n hx hb dL_law_788 rfl (lv_at hl 1 rfl) ?_
  refine la_arg (k := 1) hx hb hX hbl hbA hS (by omega) hL (lv_at hl 3 rfl) (lv_at hl 0 rfl) (by decide) dL_law_789 dL_law_790 dL_law_791 dL_law_792 dL_law_793 ?_
  refine la_arg (k := 2) hx hb hX hbl hbA hS (by omega) hL (lv_at hl 3 rfl) (lv_at hl 0 rfl) (by decide) dL_law_794 dL_law_795 dL_law_796 dL_law_797 dL_law_798 ?_
  refine lm_Vi (b := g 31) (As := [.int (xs (i + 1)), .int (xs (i + 2))]) (rest := [.int r1]) (Y := wC h cy cs1) ⟨hx, hb, hml, hown, hts⟩ (cM_laughs l D g gy _ _ _ _ hwr) (cwV 2 hts gL_law_X12_laughs rfl rfl rfl (by decide +kernel) ⟨Nat.le_of_ble_eq_true rfl, Nat.le_of_ble_eq_true rfl⟩) (va_recv hKM hPM (ci := 11) (q0 := 0) rfl rfl) hKM hPM hDM hS hA hPC hAp.sym rfl hl.1 rfl (Nat.le_of_ble_eq_true rfl) dL_law_799 ⟨show cells + 0 ≤ 600000 by omega, show slots + 0 ≤ 7302250 by omega⟩ (fun r2 ms2 H locs hw hPM hDM hS hPC hAp => ?_)
  obtain ⟨e2, e3⟩ := hw
  refine lv_icmp_eq (tgt := 1616) hx hb dL_law_802 (by decide) (fun _ => ?_) (fun hne => absurd (e1.trans e2.symm) hne)
  refine W.widen (k := cells + 4) (n := slots + 406) (by omega) (by omega) ?_
  exact kk cs1 ms2 H locs ⟨hPC, hDC, hPM, hDM, hAp.sym, hS, by rw [e3]; exact R1⟩
theorem lcase_19 (F : LF p m c s b L xs D cy gy A) (I : LI s A D h cy g gy cs ms H locs) (hl : lv_has ls 4 (LL b h g i)) (hi : i + 6 ≤ L) (hr : cells + 4 ≤ 600000 ∧ slots + 406 ≤ 7302250) (kk : ∀ (cs1 : CS) (ms1 : MS) (H1 : Heap) (locs1 : List Loc), LI s A D h cy g gy cs1 ms1 H1 locs1 → W p l e room_1 s m #[Value.ref b] below meth c H1 locs1 (cells + 4) (slots + 406) Q (F0 m 1616 ls [])) : W p l e room_1 s m #[Value.ref b] below meth c H locs cells slots Q (F0 m 807 ls []) := by
  obtain ⟨hx, hb, hml, hown, hts, hX, hbl, hbA, hA, hKC, hKM, hs, hL⟩ := F
  obtain ⟨hPC, hDC, hPM, hDM, hAp, hS, R⟩ := I
  obtain ⟨hr1, hr2⟩ := hr
  obtain ⟨r, ms1, hwr, hwc⟩ := s2_is R (xs (i + 1))
  refine lv_aload_n hx hb dL_law_807 rfl (lv_at hl 2 rfl) ?_
  refine la_arg (k := 1) hx hb hX hbl hbA hS (by omega) hL (lv_at hl 3 rfl) (lv_at hl 0 rfl) (by decide) dL_law_808 dL_law_809 dL_law_810 dL_law_811 dL_law_812 ?_
  refine lc_Vi (b := h 0) (As := [.int (xs (i + 1))]) (rest := []) (mc := 0) (ms := 0) (Y := wM g gy ms) clE_stable hs ⟨hx, hb, hml, hown, hts⟩ (cC_X11_is l D h cy _ _ _ hwc) (cwV 1 hts gL_law_X11_is rfl rfl rfl (by decide +kernel) ⟨Nat.le_of_ble_eq_true rfl, Nat.le_of_ble_eq_true rfl⟩) (va_recv hKC hPC (ci := 10) (q0 := 0) rfl rfl) hKC hPC hDC hS hA hPM hAp rfl hl.1 rfl (Nat.le_of_ble_eq_true rfl) dL_law_813 ⟨show cells + 0 ≤ 600000 by omega, show slots + 0 ≤ 7302250 by omega⟩ (fun r1 cs1 H locs hw hPC hDC hS hPM hAp => ?_)
  obtain ⟨e1, R1⟩ := hw
  refine lv_aload_n hx hb dL_law_816 rfl (lv_at hl 1 rfl) ?_
  refine la_arg (k := 1) hx hb hX hbl hbA hS (by omega) hL (lv_at hl 3 rfl) (lv_at hl 0 rfl) (by decide) dL_law_817 dL_law_818 dL_law_819 dL_law_820 dL_law_821 ?_
  refine lm_Vi (b := g 31) (As := [.int (xs (i + 1))]) (rest := [.int r1]) (Y := wC h cy cs1) ⟨hx, hb, hml, hown, hts⟩ (cM_is l D g gy _ _ _ hwr) (cwV 1 hts gL_law_X12_is rfl rfl rfl (by decide +kernel) ⟨Nat.le_of_ble_eq_true rfl, Nat.le_of_ble_eq_true rfl⟩) (va_recv hKM hPM (ci := 11) (q0 := 0) rfl rfl) hKM hPM hDM hS hA hPC hAp.sym rfl hl.1 rfl (Nat.le_of_ble_eq_true rfl) dL_law_822 ⟨show cells + 0 ≤ 600000 by omega, show slots + 0 ≤ 7302250 by omega⟩ (fun r2 ms2 H locs hw hPM hDM hS hPC hAp => ?_)
  obtain ⟨e2, e3⟩ := hw
  refine lv_icmp_eq (tgt := 1616) hx hb dL_law_825 (by decide) (fun _ => ?_) (fun hne => absurd (e1.trans e2.symm) hne)
  refine W.widen (k := cells + 4) (n := slots + 406) (by omega) (by omega) ?_
  exact kk cs1 ms2 H locs ⟨hPC, hDC, hPM, hDM, hAp.sym, hS, by rw [e3]; exact R1⟩
theorem lcase_20 (F : LF p m c s b L xs D cy gy A) (I : LI s A D h cy g gy cs ms H locs) (hl : lv_has ls 4 (LL b h g i)) (hi : i + 6 ≤ L) (hr : cells + 4 ≤ 600000 ∧ slots + 406 ≤ 7302250) (kk : ∀ (cs1 : CS) (ms1 : MS) (H1 : Heap) (locs1 : List Loc), LI s A D h cy g gy cs1 ms1 H1 locs1 → W p l e room_1 s m #[Value.ref b] below meth c H1 locs1 (cells + 4) (slots + 406) Q (F0 m 1616 ls [])) : W p l e room_1 s m #[Value.ref b] below meth c H locs cells slots Q (F0 m 830 ls []) := by
  obtain ⟨hx, hb, hml, hown, hts, hX, hbl, hbA, hA, hKC, hKM, hs, hL⟩ := F
  obtain ⟨hPC, hDC, hPM, hDM, hAp, hS, R⟩ := I
  obtain ⟨hr1, hr2⟩ := hr
  obtain ⟨r, ms1, hwr, hwc⟩ := s2_book R (xs (i + 1)) (xs (i + 2))
  refine lv_aload_n hx hb dL_law_830 rfl (lv_at hl 2 rfl) ?_
  refine la_arg (k := 1) hx hb hX hbl hbA hS (by omega) hL (lv_at hl 3 rfl) (lv_at hl 0 rfl) (by decide) dL_law_831 dL_law_832 dL_law_833 dL_law_834 dL_law_835 ?_
  refine la_arg (k := 2) hx hb hX hbl hbA hS (by omega) hL (lv_at hl 3 rfl) (lv_at hl 0 rfl) (by decide) dL_law_836 dL_law_837 dL_law_838 dL_law_839 dL_law_840 ?_
  refine lc_Vi (b := h 0) (As := [.int (xs (i + 1)), .int (xs (i + 2))]) (rest := []) (mc := 0) (ms := 0) (Y := wM g gy ms) clE_stable hs ⟨hx, hb, hml, hown, hts⟩ (cC_X11_book l D h cy _ _ _ _ hwc) (cwV 2 hts gL_law_X11_book rfl rfl rfl (by decide +kernel) ⟨Nat.le_of_ble_eq_true rfl, Nat.le_of_ble_eq_true rfl⟩) (va_recv hKC hPC (ci := 10) (q0 := 0) rfl rfl) hKC hPC hDC hS hA hPM hAp rfl hl.1 rfl (Nat.le_of_ble_eq_true rfl) dL_law_841 ⟨show cells + 0 ≤ 600000 by omega, show slots + 0 ≤ 7302250 by omega⟩ (fun r1 cs1 H locs hw hPC hDC hS hPM hAp => ?_)
  obtain ⟨e1, R1⟩ := hw
  refine lv_aload_n hx hb dL_law_844 rfl (lv_at hl 1 rfl) ?_
  refine la_arg (k := 1) hx hb hX hbl hbA hS (by omega) hL (lv_at hl 3 rfl) (lv_at hl 0 rfl) (by decide) dL_law_845 dL_law_846 dL_law_847 dL_law_848 dL_law_849 ?_
  refine la_arg (k := 2) hx hb hX hbl hbA hS (by omega) hL (lv_at hl 3 rfl) (lv_at hl 0 rfl) (by decide) dL_law_850 dL_law_851 dL_law_852 dL_law_853 dL_law_854 ?_
  refine lm_Vi (b := g 31) (As := [.int (xs (i + 1)), .int (xs (i + 2))]) (rest := [.int r1]) (Y := wC h cy cs1) ⟨hx, hb, hml, hown, hts⟩ (cM_book l D g gy _ _ _ _ hwr) (cwV 2 hts gL_law_X12_book rfl rfl rfl (by decide +kernel) ⟨Nat.le_of_ble_eq_true rfl, Nat.le_of_ble_eq_true rfl⟩) (va_recv hKM hPM (ci := 11) (q0 := 0) rfl rfl) hKM hPM hDM hS hA hPC hAp.sym rfl hl.1 rfl (Nat.le_of_ble_eq_true rfl) dL_law_855 ⟨show cells + 0 ≤ 600000 by omega, show slots + 0 ≤ 7302250 by omega⟩ (fun r2 ms2 H locs hw hPM hDM hS hPC hAp => ?_)
  obtain ⟨e2, e3⟩ := hw
  refine lv_icmp_eq (tgt := 1616) hx hb dL_law_858 (by decide) (fun _ => ?_) (fun hne => absurd (e1.trans e2.symm) hne)
  refine W.widen (k := cells + 4) (n := slots + 406) (by omega) (by omega) ?_
  exact kk cs1 ms2 H locs ⟨hPC, hDC, hPM, hDM, hAp.sym, hS, by rw [e3]; exact R1⟩
theorem lcase_21 (F : LF p m c s b L xs D cy gy A) (I : LI s A D h cy g gy cs ms H locs) (hl : lv_has ls 4 (LL b h g i)) (hi : i + 6 ≤ L) (hr : cells + 4 ≤ 600000 ∧ slots + 406 ≤ 7302250) (kk : ∀ (cs1 : CS) (ms1 : MS) (H1 : Heap) (locs1 : List Loc), LI s A D h cy g gy cs1 ms1 H1 locs1 → W p l e room_1 s m #[Value.ref b] below meth c H1 locs1 (cells + 4) (slots + 406) Q (F0 m 1616 ls [])) : W p l e room_1 s m #[Value.ref b] below meth c H locs cells slots Q (F0 m 863 ls []) := by
  obtain ⟨hx, hb, hml, hown, hts, hX, hbl, hbA, hA, hKC, hKM, hs, hL⟩ := F
  obtain ⟨hPC, hDC, hPM, hDM, hAp, hS, R⟩ := I
  obtain ⟨hr1, hr2⟩ := hr
  obtain ⟨r, ms1, hwr, hwc⟩ := s2_foretold R (xs (i + 1)) (xs (i + 2))
  refine lv_aload_n hx hb dL_law_863 rfl (lv_at hl 2 rfl) ?_
  refine la_arg (k := 1) hx hb hX hbl hbA hS (by omega) hL (lv_at hl 3 rfl) (lv_at hl 0 rfl) (by decide) dL_law_864 dL_law_865 dL_law_866 dL_law_867 dL_law_868 ?_
  refine la_arg (k := 2) hx hb hX hbl hbA hS (by omega) hL (lv_at hl 3 rfl) (lv_at hl 0 rfl) (by decide) dL_law_869 dL_law_870 dL_law_871 dL_law_872 dL_law_873 ?_
  refine lc_Vi (b := h 0) (As := [.int (xs (i + 1)), .int (xs (i + 2))]) (rest := []) (mc := 0) (ms := 0) (Y := wM g gy ms) clE_stable hs ⟨hx, hb, hml, hown, hts⟩ (cC_X11_foretold l D h cy _ _ _ _ hwc) (cwV 2 hts gL_law_X11_foretold rfl rfl rfl (by decide +kernel) ⟨Nat.le_of_ble_eq_true rfl, Nat.le_of_ble_eq_true rfl⟩) (va_recv hKC hPC (ci := 10) (q0 := 0) rfl rfl) hKC hPC hDC hS hA hPM hAp rfl hl.1 rfl (Nat.le_of_ble_eq_true rfl) dL_law_874 ⟨show cells + 0 ≤ 600000 by omega, show slots + 0 ≤ 7302250 by omega⟩ (fun r1 cs1 H locs hw hPC hDC hS hPM hAp => ?_)
  obtain ⟨e1, R1⟩ := hw
  refine lv_aload_n hx hb dL_law_877 rfl (lv_at hl 1 rfl) ?_
  refine la_arg (k := 1) hx hb hX hbl hbA hS (by omega) hL (lv_at hl 3 rfl) (lv_at hl 0 rfl) (by decide) dL_law_878 dL_law_879 dL_law_880 dL_law_881 dL_law_882 ?_
  refine la_arg (k := 2) hx hb hX hbl hbA hS (by omega) hL (lv_at hl 3 rfl) (lv_at hl 0 rfl) (by decide) dL_law_883 dL_law_884 dL_law_885 dL_law_886 dL_law_887 ?_
  refine lm_Vi (b := g 31) (As := [.int (xs (i + 1)), .int (xs (i + 2))]) (rest := [.int r1]) (Y := wC h cy cs1) ⟨hx, hb, hml, hown, hts⟩ (cM_foretold l D g gy _ _ _ _ hwr) (cwV 2 hts gL_law_X12_foretold rfl rfl rfl (by decide +kernel) ⟨Nat.le_of_ble_eq_true rfl, Nat.le_of_ble_eq_true rfl⟩) (va_recv hKM hPM (ci := 11) (q0 := 0) rfl rfl) hKM hPM hDM hS hA hPC hAp.sym rfl hl.1 rfl (Nat.le_of_ble_eq_true rfl) dL_law_888 ⟨show cells + 0 ≤ 600000 by omega, show slots + 0 ≤ 7302250 by omega⟩ (fun r2 ms2 H locs hw hPM hDM hS hPC hAp => ?_)
  obtain ⟨e2, e3⟩ := hw
  refine lv_icmp_eq (tgt := 1616) hx hb dL_law_891 (by decide) (fun _ => ?_) (fun hne => absurd (e1.trans e2.symm) hne)
  refine W.widen (k := cells + 4) (n := slots + 406) (by omega) (by omega) ?_
  exact kk cs1 ms2 H locs ⟨hPC, hDC, hPM, hDM, hAp.sym, hS, by rw [e3]; exact R1⟩
theorem lcase_22 (F : LF p m c s b L xs D cy gy A) (I : LI s A D h cy g gy cs ms H locs) (hl : lv_has ls 4 (LL b h g i)) (hi : i + 6 ≤ L) (hr : cells + 4 ≤ 600000 ∧ slots + 406 ≤ 7302250) (kk : ∀ (cs1 : CS) (ms1 : MS) (H1 : Heap) (locs1 : List Loc), LI s A D h cy g gy cs1 ms1 H1 locs1 → W p l e room_1 s m #[Value.ref b] below meth c H1 locs1 (cells + 4) (slots + 406) Q (F0 m 1616 ls [])) : W p l e room_1 s m #[Value.ref b] below meth c H locs cells slots Q (F0 m 896 ls []) := by
  obtain ⟨hx, hb, hml, hown, hts, hX, hbl, hbA, hA, hKC, hKM, hs, hL⟩ := F
  obtain ⟨hPC, hDC, hPM, hDM, hAp, hS, R⟩ := I
  obtain ⟨hr1, hr2⟩ := hr
  obtain ⟨r, ms1, hwr, hwc⟩ := s2_heavy R (xs (i + 1))
  refine lv_aload_n hx hb dL_law_896 rfl (lv_at hl 2 rfl) ?_
  refine la_arg (k := 1) hx hb hX hbl hbA hS (by omega) hL (lv_at hl 3 rfl) (lv_at hl 0 rfl) (by decide) dL_law_897 dL_law_898 dL_law_899 dL_law_900 dL_law_901 ?_
  refine lc_Vi (b := h 0) (As := [.int (xs (i + 1))]) (rest := []) (mc := 0) (ms := 0) (Y := wM g gy ms) clE_stable hs ⟨hx, hb, hml, hown, hts⟩ (cC_X11_heavy l D h cy _ _ _ hwc) (cwV 1 hts gL_law_X11_heavy rfl rfl rfl (by decide +kernel) ⟨Nat.le_of_ble_eq_true rfl, Nat.le_of_ble_eq_true rfl⟩) (va_recv hKC hPC (ci := 10) (q0 := 0) rfl rfl) hKC hPC hDC hS hA hPM hAp rfl hl.1 rfl (Nat.le_of_ble_eq_true rfl) dL_law_902 ⟨show cells + 0 ≤ 600000 by omega, show slots + 0 ≤ 7302250 by omega⟩ (fun r1 cs1 H locs hw hPC hDC hS hPM hAp => ?_)
  obtain ⟨e1, R1⟩ := hw
  refine lv_aload_n hx hb dL_law_905 rfl (lv_at hl 1 rfl) ?_
  refine la_arg (k := 1) hx hb hX hbl hbA hS (by omega) hL (lv_at hl 3 rfl) (lv_at hl 0 rfl) (by decide) dL_law_906 dL_law_907 dL_law_908 dL_law_909 dL_law_910 ?_
  refine lm_Vi (b := g 31) (As := [.int (xs (i + 1))]) (rest := [.int r1]) (Y := wC h cy cs1) ⟨hx, hb, hml, hown, hts⟩ (cM_heavy l D g gy _ _ _ hwr) (cwV 1 hts gL_law_X12_heavy rfl rfl rfl (by decide +kernel) ⟨Nat.le_of_ble_eq_true rfl, Nat.le_of_ble_eq_true rfl⟩) (va_recv hKM hPM (ci := 11) (q0 := 0) rfl rfl) hKM hPM hDM hS hA hPC hAp.sym rfl hl.1 rfl (Nat.le_of_ble_eq_true rfl) dL_law_911 ⟨show cells + 0 ≤ 600000 by omega, show slots + 0 ≤ 7302250 by omega⟩ (fun r2 ms2 H locs hw hPM hDM hS hPC hAp => ?_)
  obtain ⟨e2, e3⟩ := hw
  refine lv_icmp_eq (tgt := 1616) hx hb dL_law_914 (by decide) (fun _ => ?_) (fun hne => absurd (e1.trans e2.symm) hne)
  refine W.widen (k := cells + 4) (n := slots + 406) (by omega) (by omega) ?_
  exact kk cs1 ms2 H locs ⟨hPC, hDC, hPM, hDM, hAp.sym, hS, by rw [e3]; exact R1⟩
theorem lcase_23 (F : LF p m c s b L xs D cy gy A) (I : LI s A D h cy g gy cs ms H locs) (hl : lv_has ls 4 (LL b h g i)) (hi : i + 6 ≤ L) (hr : cells + 4 ≤ 600000 ∧ slots + 406 ≤ 7302250) (kk : ∀ (cs1 : CS) (ms1 : MS) (H1 : Heap) (locs1 : List Loc), LI s A D h cy g gy cs1 ms1 H1 locs1 → W p l e room_1 s m #[Value.ref b] below meth c H1 locs1 (cells + 4) (slots + 406) Q (F0 m 1616 ls [])) : W p l e room_1 s m #[Value.ref b] below meth c H locs cells slots Q (F0 m 919 ls []) := by
  obtain ⟨hx, hb, hml, hown, hts, hX, hbl, hbA, hA, hKC, hKM, hs, hL⟩ := F
  obtain ⟨hPC, hDC, hPM, hDM, hAp, hS, R⟩ := I
  obtain ⟨hr1, hr2⟩ := hr
  obtain ⟨r, ms1, hwr, hwc⟩ := s2_told R (xs (i + 1)) (xs (i + 2))
  refine lv_aload_n hx hb dL_law_919 rfl (lv_at hl 2 rfl) ?_
  refine la_arg (k := 1) hx hb hX hbl hbA hS (by omega) hL (lv_at hl 3 rfl) (lv_at hl 0 rfl) (by decide) dL_law_920 dL_law_921 dL_law_922 dL_law_923 dL_law_924 ?_
  refine la_arg (k := 2) hx hb hX hbl hbA hS (by omega) hL (lv_at hl 3 rfl) (lv_at hl 0 rfl) (by decide) dL_law_925 dL_law_926 dL_law_927 dL_law_928 dL_law_929 ?_
  refine lc_Vi (b := h 0) (As := [.int (xs (i + 1)), .int (xs (i + 2))]) (rest := []) (mc := 0) (ms := 0) (Y := wM g gy ms) clE_stable hs ⟨hx, hb, hml, hown, hts⟩ (cC_X11_told l D h cy _ _ _ _ hwc) (cwV 2 hts gL_law_X11_told rfl rfl rfl (by decide +kernel) ⟨Nat.le_of_ble_eq_true rfl, Nat.le_of_ble_eq_true rfl⟩) (va_recv hKC hPC (ci := 10) (q0 := 0) rfl rfl) hKC hPC hDC hS hA hPM hAp rfl hl.1 rfl (Nat.le_of_ble_eq_true rfl) dL_law_930 ⟨show cells + 0 ≤ 600000 by omega, show slots + 0 ≤ 7302250 by omega⟩ (fun r1 cs1 H locs hw hPC hDC hS hPM hAp => ?_)
  obtain ⟨e1, R1⟩ := hw
  refine lv_aload_n hx hb dL_law_933 rfl (lv_at hl 1 rfl) ?_
  refine la_arg (k := 1) hx hb hX hbl hbA hS (by omega) hL (lv_at hl 3 rfl) (lv_at hl 0 rfl) (by decide) dL_law_934 dL_law_935 dL_law_936 dL_law_937 dL_law_938 ?_
  refine la_arg (k := 2) hx hb hX hbl hbA hS (by omega) hL (lv_at hl 3 rfl) (lv_at hl 0 rfl) (by decide) dL_law_939 dL_law_940 dL_law_941 dL_law_942 dL_law_943 ?_
  refine lm_Vi (b := g 31) (As := [.int (xs (i + 1)), .int (xs (i + 2))]) (rest := [.int r1]) (Y := wC h cy cs1) ⟨hx, hb, hml, hown, hts⟩ (cM_told l D g gy _ _ _ _ hwr) (cwV 2 hts gL_law_X12_told rfl rfl rfl (by decide +kernel) ⟨Nat.le_of_ble_eq_true rfl, Nat.le_of_ble_eq_true rfl⟩) (va_recv hKM hPM (ci := 11) (q0 := 0) rfl rfl) hKM hPM hDM hS hA hPC hAp.sym rfl hl.1 rfl (Nat.le_of_ble_eq_true rfl) dL_law_944 ⟨show cells + 0 ≤ 600000 by omega, show slots + 0 ≤ 7302250 by omega⟩ (fun r2 ms2 H locs hw hPM hDM hS hPC hAp => ?_)
  obtain ⟨e2, e3⟩ := hw
  refine lv_icmp_eq (tgt := 1616) hx hb dL_law_947 (by decide) (fun _ => ?_) (fun hne => absurd (e1.trans e2.symm) hne)
  refine W.widen (k := cells + 4) (n := slots + 406) (by omega) (by omega) ?_
  exact kk cs1 ms2 H locs ⟨hPC, hDC, hPM, hDM, hAp.sym, hS, by rw [e3]; exact R1⟩
end LCASE
