/-! the law, call by call -/
set_option maxHeartbeats 4000000 in
set_option maxRecDepth 100000 in
theorem law_change {p : Program} {l : Launch} {e : Env} {s : State} {m : MethodId} {below : List Frame} {meth : Method} {c : Code} {b L : Nat} {xs : Nat → Int32} {A : Nat → Prop} {D : va_G} {cI cB : ClassId} (hL : L ≤ 2048) (C : zLC p s m c b L xs A D cI cB) {i : Nat} (hi : i + 4 ≤ L) {hX hM : Nat → Nat} {X M : zMm} (hI : Inv X M) (kk : ∀ (hX2 : Nat → Nat) (X2 M2 : zMm), Inv X2 M2 → zAtL p l e s m below meth c b A D cI cB hX2 hM X2 M2 i 790) : zAtL p l e s m below meth c b A D cI cB hX hM X M i 323 := by
  obtain ⟨hx, hb, hml, hown, hts, hXs, hbA, hbl, hK, hA⟩ := C
  intro H locs ls hP hD hS hl
  obtain ⟨r, X2, M2, f1, f2, hI2⟩ := q_change hI (xs (i + 1)) (xs (i + 2))
  refine lv_aload_n hx hb dL_law_323 rfl (lv_at hl 1 rfl) ?_
  refine lv_aload_n hx hb dL_law_324 rfl (lv_at hl 0 rfl) ?_
  refine lv_iload_n hx hb dL_law_325 rfl (lv_at hl 3 rfl) ?_
  refine lv_iconst (v := 1) hx hb dL_law_326 (by decide) ?_
  refine lv_iadd hx hb dL_law_327 ?_
  refine zt (ad1 i) ?_
  refine va_sld hx hb hXs hbl hbA hS (vp_in_nI (by omega) (by omega)) dL_law_328 ?_
  refine z_tc (f := xs) (nI_clamp (by omega)) ?_
  refine lv_aload_n hx hb dL_law_329 rfl (lv_at hl 0 rfl) ?_
  refine lv_iload_n hx hb dL_law_330 rfl (lv_at hl 3 rfl) ?_
  refine lv_iconst (v := 2) hx hb dL_law_331 (by decide) ?_
  refine lv_iadd hx hb dL_law_332 ?_
  refine zt (ad2 i) ?_
  refine va_sld hx hb hXs hbl hbA hS (vp_in_nI (by omega) (by omega)) dL_law_333 ?_
  refine z_tc (f := xs) (nI_clamp (by omega)) ?_
  refine zcallL (As := [.int (xs (i + 1)), .int (xs (i + 2))]) (rest := []) ⟨hx, hb, hml, hown, hts⟩ (c_X8_change l D cI cB hX X (xs (i + 1)) (xs (i + 2)) r X2 f1) (cwV 2 hts (z_gV (fun w h => wG_in h) wd_474 wd_475 wd_476 wd_1 wd_477) rfl rfl rfl q_X8_change ⟨Nat.le_of_ble_eq_true rfl, Nat.le_of_ble_eq_true rfl⟩) hK hP hD hS hA 8 rfl rfl rfl rfl hl.1 (Nat.le_of_ble_eq_true rfl) dL_law_334 ⟨Nat.le_of_ble_eq_true rfl, Nat.le_of_ble_eq_true rfl⟩ rfl (fun H locs hP hD hS => ?_)
  refine lv_aload_n hx hb dL_law_337 rfl (lv_at hl 2 rfl) ?_
  refine lv_aload_n hx hb dL_law_338 rfl (lv_at hl 0 rfl) ?_
  refine lv_iload_n hx hb dL_law_339 rfl (lv_at hl 3 rfl) ?_
  refine lv_iconst (v := 1) hx hb dL_law_340 (by decide) ?_
  refine lv_iadd hx hb dL_law_341 ?_
  refine zt (ad1 i) ?_
  refine va_sld hx hb hXs hbl hbA hS (vp_in_nI (by omega) (by omega)) dL_law_342 ?_
  refine z_tc (f := xs) (nI_clamp (by omega)) ?_
  refine lv_aload_n hx hb dL_law_343 rfl (lv_at hl 0 rfl) ?_
  refine lv_iload_n hx hb dL_law_344 rfl (lv_at hl 3 rfl) ?_
  refine lv_iconst (v := 2) hx hb dL_law_345 (by decide) ?_
  refine lv_iadd hx hb dL_law_346 ?_
  refine zt (ad2 i) ?_
  refine va_sld hx hb hXs hbl hbA hS (vp_in_nI (by omega) (by omega)) dL_law_347 ?_
  refine z_tc (f := xs) (nI_clamp (by omega)) ?_
  refine zcallL (As := [.int (xs (i + 1)), .int (xs (i + 2))]) (rest := [.int r]) ⟨hx, hb, hml, hown, hts⟩ (c_X9_change l D cI cB hM M (xs (i + 1)) (xs (i + 2)) r M2 f2) (cwV 2 hts (z_gV (fun w h => wG_in h) wd_818 wd_819 wd_820 wd_15 wd_821) rfl rfl rfl q_X9_change ⟨Nat.le_of_ble_eq_true rfl, Nat.le_of_ble_eq_true rfl⟩) hK hP hD hS hA 9 rfl rfl rfl rfl hl.1 (Nat.le_of_ble_eq_true rfl) dL_law_348 ⟨Nat.le_of_ble_eq_true rfl, Nat.le_of_ble_eq_true rfl⟩ rfl (fun H locs hP hD hS => ?_)
  refine lv_icmp_eq (tgt := 790) hx hb dL_law_351 (by decide) (fun _ => ?_) (fun c => absurd rfl c)
  exact kk hX X2 M2 hI2 _ _ _ hP hD hS hl
set_option maxHeartbeats 4000000 in
set_option maxRecDepth 100000 in
theorem law_alter {p : Program} {l : Launch} {e : Env} {s : State} {m : MethodId} {below : List Frame} {meth : Method} {c : Code} {b L : Nat} {xs : Nat → Int32} {A : Nat → Prop} {D : va_G} {cI cB : ClassId} (hL : L ≤ 2048) (C : zLC p s m c b L xs A D cI cB) {i : Nat} (hi : i + 4 ≤ L) {hX hM : Nat → Nat} {X M : zMm} (hI : Inv X M) (kk : ∀ (hX2 : Nat → Nat) (X2 M2 : zMm), Inv X2 M2 → zAtL p l e s m below meth c b A D cI cB hX2 hM X2 M2 i 790) : zAtL p l e s m below meth c b A D cI cB hX hM X M i 356 := by
  obtain ⟨hx, hb, hml, hown, hts, hXs, hbA, hbl, hK, hA⟩ := C
  intro H locs ls hP hD hS hl
  obtain ⟨r, X2, M2, f1, f2, hI2⟩ := q_alter hI (xs (i + 1)) (xs (i + 2))
  refine lv_aload_n hx hb dL_law_356 rfl (lv_at hl 1 rfl) ?_
  refine lv_aload_n hx hb dL_law_357 rfl (lv_at hl 0 rfl) ?_
  refine lv_iload_n hx hb dL_law_358 rfl (lv_at hl 3 rfl) ?_
  refine lv_iconst (v := 1) hx hb dL_law_359 (by decide) ?_
  refine lv_iadd hx hb dL_law_360 ?_
  refine zt (ad1 i) ?_
  refine va_sld hx hb hXs hbl hbA hS (vp_in_nI (by omega) (by omega)) dL_law_361 ?_
  refine z_tc (f := xs) (nI_clamp (by omega)) ?_
  refine lv_aload_n hx hb dL_law_362 rfl (lv_at hl 0 rfl) ?_
  refine lv_iload_n hx hb dL_law_363 rfl (lv_at hl 3 rfl) ?_
  refine lv_iconst (v := 2) hx hb dL_law_364 (by decide) ?_
  refine lv_iadd hx hb dL_law_365 ?_
  refine zt (ad2 i) ?_
  refine va_sld hx hb hXs hbl hbA hS (vp_in_nI (by omega) (by omega)) dL_law_366 ?_
  refine z_tc (f := xs) (nI_clamp (by omega)) ?_
  refine zcallL (As := [.int (xs (i + 1)), .int (xs (i + 2))]) (rest := []) ⟨hx, hb, hml, hown, hts⟩ (c_X8_alter l D cI cB hX X (xs (i + 1)) (xs (i + 2)) r X2 f1) (cwV 2 hts (z_gV (fun w h => wG_in h) wd_487 wd_488 wd_489 wd_1 wd_490) rfl rfl rfl q_X8_alter ⟨Nat.le_of_ble_eq_true rfl, Nat.le_of_ble_eq_true rfl⟩) hK hP hD hS hA 8 rfl rfl rfl rfl hl.1 (Nat.le_of_ble_eq_true rfl) dL_law_367 ⟨Nat.le_of_ble_eq_true rfl, Nat.le_of_ble_eq_true rfl⟩ rfl (fun H locs hP hD hS => ?_)
  refine lv_aload_n hx hb dL_law_370 rfl (lv_at hl 2 rfl) ?_
  refine lv_aload_n hx hb dL_law_371 rfl (lv_at hl 0 rfl) ?_
  refine lv_iload_n hx hb dL_law_372 rfl (lv_at hl 3 rfl) ?_
  refine lv_iconst (v := 1) hx hb dL_law_373 (by decide) ?_
  refine lv_iadd hx hb dL_law_374 ?_
  refine zt (ad1 i) ?_
  refine va_sld hx hb hXs hbl hbA hS (vp_in_nI (by omega) (by omega)) dL_law_375 ?_
  refine z_tc (f := xs) (nI_clamp (by omega)) ?_
  refine lv_aload_n hx hb dL_law_376 rfl (lv_at hl 0 rfl) ?_
  refine lv_iload_n hx hb dL_law_377 rfl (lv_at hl 3 rfl) ?_
  refine lv_iconst (v := 2) hx hb dL_law_378 (by decide) ?_
  refine lv_iadd hx hb dL_law_379 ?_
  refine zt (ad2 i) ?_
  refine va_sld hx hb hXs hbl hbA hS (vp_in_nI (by omega) (by omega)) dL_law_380 ?_
  refine z_tc (f := xs) (nI_clamp (by omega)) ?_
  refine zcallL (As := [.int (xs (i + 1)), .int (xs (i + 2))]) (rest := [.int r]) ⟨hx, hb, hml, hown, hts⟩ (c_X9_alter l D cI cB hM M (xs (i + 1)) (xs (i + 2)) r M2 f2) (cwV 2 hts (z_gV (fun w h => wG_in h) wd_830 wd_831 wd_832 wd_15 wd_833) rfl rfl rfl q_X9_alter ⟨Nat.le_of_ble_eq_true rfl, Nat.le_of_ble_eq_true rfl⟩) hK hP hD hS hA 9 rfl rfl rfl rfl hl.1 (Nat.le_of_ble_eq_true rfl) dL_law_381 ⟨Nat.le_of_ble_eq_true rfl, Nat.le_of_ble_eq_true rfl⟩ rfl (fun H locs hP hD hS => ?_)
  refine lv_icmp_eq (tgt := 790) hx hb dL_law_384 (by decide) (fun _ => ?_) (fun c => absurd rfl c)
  exact kk hX X2 M2 hI2 _ _ _ hP hD hS hl
set_option maxHeartbeats 4000000 in
set_option maxRecDepth 100000 in
theorem law_undo {p : Program} {l : Launch} {e : Env} {s : State} {m : MethodId} {below : List Frame} {meth : Method} {c : Code} {b L : Nat} {xs : Nat → Int32} {A : Nat → Prop} {D : va_G} {cI cB : ClassId} (hL : L ≤ 2048) (C : zLC p s m c b L xs A D cI cB) {i : Nat} (hi : i + 4 ≤ L) {hX hM : Nat → Nat} {X M : zMm} (hI : Inv X M) (kk : ∀ (hX2 : Nat → Nat) (X2 M2 : zMm), Inv X2 M2 → zAtL p l e s m below meth c b A D cI cB hX2 hM X2 M2 i 790) : zAtL p l e s m below meth c b A D cI cB hX hM X M i 389 := by
  obtain ⟨hx, hb, hml, hown, hts, hXs, hbA, hbl, hK, hA⟩ := C
  intro H locs ls hP hD hS hl
  obtain ⟨r, X2, M2, f1, f2, hI2⟩ := q_undo hI
  refine lv_aload_n hx hb dL_law_389 rfl (lv_at hl 1 rfl) ?_
  refine zcallL (As := []) (rest := []) ⟨hx, hb, hml, hown, hts⟩ (c_X8_undo l D cI cB hX X r X2 f1) (cwV 0 hts (z_gV (fun w h => wG_in h) wd_491 wd_492 wd_493 wd_1 wd_494) rfl rfl rfl q_X8_undo ⟨Nat.le_of_ble_eq_true rfl, Nat.le_of_ble_eq_true rfl⟩) hK hP hD hS hA 8 rfl rfl rfl rfl hl.1 (Nat.le_of_ble_eq_true rfl) dL_law_390 ⟨Nat.le_of_ble_eq_true rfl, Nat.le_of_ble_eq_true rfl⟩ rfl (fun H locs hP hD hS => ?_)
  refine lv_aload_n hx hb dL_law_393 rfl (lv_at hl 2 rfl) ?_
  refine zcallL (As := []) (rest := [.int r]) ⟨hx, hb, hml, hown, hts⟩ (c_X9_undo l D cI cB hM M r M2 f2) (cwV 0 hts (z_gV (fun w h => wG_in h) wd_838 wd_839 wd_840 wd_15 wd_841) rfl rfl rfl q_X9_undo ⟨Nat.le_of_ble_eq_true rfl, Nat.le_of_ble_eq_true rfl⟩) hK hP hD hS hA 9 rfl rfl rfl rfl hl.1 (Nat.le_of_ble_eq_true rfl) dL_law_394 ⟨Nat.le_of_ble_eq_true rfl, Nat.le_of_ble_eq_true rfl⟩ rfl (fun H locs hP hD hS => ?_)
  refine lv_icmp_eq (tgt := 790) hx hb dL_law_397 (by decide) (fun _ => ?_) (fun c => absurd rfl c)
  exact kk hX X2 M2 hI2 _ _ _ hP hD hS hl
set_option maxHeartbeats 4000000 in
set_option maxRecDepth 100000 in
theorem law_order {p : Program} {l : Launch} {e : Env} {s : State} {m : MethodId} {below : List Frame} {meth : Method} {c : Code} {b L : Nat} {xs : Nat → Int32} {A : Nat → Prop} {D : va_G} {cI cB : ClassId} (hL : L ≤ 2048) (C : zLC p s m c b L xs A D cI cB) {i : Nat} (hi : i + 4 ≤ L) {hX hM : Nat → Nat} {X M : zMm} (hI : Inv X M) (kk : ∀ (hX2 : Nat → Nat) (X2 M2 : zMm), Inv X2 M2 → zAtL p l e s m below meth c b A D cI cB hX2 hM X2 M2 i 790) : zAtL p l e s m below meth c b A D cI cB hX hM X M i 402 := by
  obtain ⟨hx, hb, hml, hown, hts, hXs, hbA, hbl, hK, hA⟩ := C
  intro H locs ls hP hD hS hl
  obtain ⟨r, X2, M2, f1, f2, hI2⟩ := q_order hI (xs (i + 1))
  refine lv_aload_n hx hb dL_law_402 rfl (lv_at hl 1 rfl) ?_
  refine lv_aload_n hx hb dL_law_403 rfl (lv_at hl 0 rfl) ?_
  refine lv_iload_n hx hb dL_law_404 rfl (lv_at hl 3 rfl) ?_
  refine lv_iconst (v := 1) hx hb dL_law_405 (by decide) ?_
  refine lv_iadd hx hb dL_law_406 ?_
  refine zt (ad1 i) ?_
  refine va_sld hx hb hXs hbl hbA hS (vp_in_nI (by omega) (by omega)) dL_law_407 ?_
  refine z_tc (f := xs) (nI_clamp (by omega)) ?_
  refine zcallL (As := [.int (xs (i + 1))]) (rest := []) ⟨hx, hb, hml, hown, hts⟩ (c_X8_order l D cI cB hX X (xs (i + 1)) r X2 f1) (cwV 1 hts (z_gV (fun w h => wG_in h) wd_499 wd_500 wd_501 wd_1 wd_502) rfl rfl rfl q_X8_order ⟨Nat.le_of_ble_eq_true rfl, Nat.le_of_ble_eq_true rfl⟩) hK hP hD hS hA 8 rfl rfl rfl rfl hl.1 (Nat.le_of_ble_eq_true rfl) dL_law_408 ⟨Nat.le_of_ble_eq_true rfl, Nat.le_of_ble_eq_true rfl⟩ rfl (fun H locs hP hD hS => ?_)
  refine lv_aload_n hx hb dL_law_411 rfl (lv_at hl 2 rfl) ?_
  refine lv_aload_n hx hb dL_law_412 rfl (lv_at hl 0 rfl) ?_
  refine lv_iload_n hx hb dL_law_413 rfl (lv_at hl 3 rfl) ?_
  refine lv_iconst (v := 1) hx hb dL_law_414 (by decide) ?_
  refine lv_iadd hx hb dL_law_415 ?_
  refine zt (ad1 i) ?_
  refine va_sld hx hb hXs hbl hbA hS (vp_in_nI (by omega) (by omega)) dL_law_416 ?_
  refine z_tc (f := xs) (nI_clamp (by omega)) ?_
  refine zcallL (As := [.int (xs (i + 1))]) (rest := [.int r]) ⟨hx, hb, hml, hown, hts⟩ (c_X9_order l D cI cB hM M (xs (i + 1)) r M2 f2) (cwV 1 hts (z_gV (fun w h => wG_in h) wd_842 wd_843 wd_844 wd_15 wd_845) rfl rfl rfl q_X9_order ⟨Nat.le_of_ble_eq_true rfl, Nat.le_of_ble_eq_true rfl⟩) hK hP hD hS hA 9 rfl rfl rfl rfl hl.1 (Nat.le_of_ble_eq_true rfl) dL_law_417 ⟨Nat.le_of_ble_eq_true rfl, Nat.le_of_ble_eq_true rfl⟩ rfl (fun H locs hP hD hS => ?_)
  refine lv_icmp_eq (tgt := 790) hx hb dL_law_420 (by decide) (fun _ => ?_) (fun c => absurd rfl c)
  exact kk hX X2 M2 hI2 _ _ _ hP hD hS hl
set_option maxHeartbeats 4000000 in
set_option maxRecDepth 100000 in
theorem law_bribes {p : Program} {l : Launch} {e : Env} {s : State} {m : MethodId} {below : List Frame} {meth : Method} {c : Code} {b L : Nat} {xs : Nat → Int32} {A : Nat → Prop} {D : va_G} {cI cB : ClassId} (hL : L ≤ 2048) (C : zLC p s m c b L xs A D cI cB) {i : Nat} (hi : i + 4 ≤ L) {hX hM : Nat → Nat} {X M : zMm} (hI : Inv X M) (kk : ∀ (hX2 : Nat → Nat) (X2 M2 : zMm), Inv X2 M2 → zAtL p l e s m below meth c b A D cI cB hX2 hM X2 M2 i 790) : zAtL p l e s m below meth c b A D cI cB hX hM X M i 425 := by
  obtain ⟨hx, hb, hml, hown, hts, hXs, hbA, hbl, hK, hA⟩ := C
  intro H locs ls hP hD hS hl
  obtain ⟨r, X2, M2, f1, f2, hI2⟩ := q_bribes hI (xs (i + 1))
  refine lv_aload_n hx hb dL_law_425 rfl (lv_at hl 1 rfl) ?_
  refine lv_aload_n hx hb dL_law_426 rfl (lv_at hl 0 rfl) ?_
  refine lv_iload_n hx hb dL_law_427 rfl (lv_at hl 3 rfl) ?_
  refine lv_iconst (v := 1) hx hb dL_law_428 (by decide) ?_
  refine lv_iadd hx hb dL_law_429 ?_
  refine zt (ad1 i) ?_
  refine va_sld hx hb hXs hbl hbA hS (vp_in_nI (by omega) (by omega)) dL_law_430 ?_
  refine z_tc (f := xs) (nI_clamp (by omega)) ?_
  refine zcallL (As := [.int (xs (i + 1))]) (rest := []) ⟨hx, hb, hml, hown, hts⟩ (c_X8_bribes l D cI cB hX X (xs (i + 1)) r X2 f1) (cwV 1 hts (z_gV (fun w h => wG_in h) wd_526 wd_527 wd_528 wd_1 wd_529) rfl rfl rfl q_X8_bribes ⟨Nat.le_of_ble_eq_true rfl, Nat.le_of_ble_eq_true rfl⟩) hK hP hD hS hA 8 rfl rfl rfl rfl hl.1 (Nat.le_of_ble_eq_true rfl) dL_law_431 ⟨Nat.le_of_ble_eq_true rfl, Nat.le_of_ble_eq_true rfl⟩ rfl (fun H locs hP hD hS => ?_)
  refine lv_aload_n hx hb dL_law_434 rfl (lv_at hl 2 rfl) ?_
  refine lv_aload_n hx hb dL_law_435 rfl (lv_at hl 0 rfl) ?_
  refine lv_iload_n hx hb dL_law_436 rfl (lv_at hl 3 rfl) ?_
  refine lv_iconst (v := 1) hx hb dL_law_437 (by decide) ?_
  refine lv_iadd hx hb dL_law_438 ?_
  refine zt (ad1 i) ?_
  refine va_sld hx hb hXs hbl hbA hS (vp_in_nI (by omega) (by omega)) dL_law_439 ?_
  refine z_tc (f := xs) (nI_clamp (by omega)) ?_
  refine zcallL (As := [.int (xs (i + 1))]) (rest := [.int r]) ⟨hx, hb, hml, hown, hts⟩ (c_X9_bribes l D cI cB hM M (xs (i + 1)) r M2 f2) (cwV 1 hts (z_gV (fun w h => wG_in h) wd_850 wd_851 wd_852 wd_15 wd_853) rfl rfl rfl q_X9_bribes ⟨Nat.le_of_ble_eq_true rfl, Nat.le_of_ble_eq_true rfl⟩) hK hP hD hS hA 9 rfl rfl rfl rfl hl.1 (Nat.le_of_ble_eq_true rfl) dL_law_440 ⟨Nat.le_of_ble_eq_true rfl, Nat.le_of_ble_eq_true rfl⟩ rfl (fun H locs hP hD hS => ?_)
  refine lv_icmp_eq (tgt := 790) hx hb dL_law_443 (by decide) (fun _ => ?_) (fun c => absurd rfl c)
  exact kk hX X2 M2 hI2 _ _ _ hP hD hS hl
set_option maxHeartbeats 4000000 in
set_option maxRecDepth 100000 in
theorem law_closed {p : Program} {l : Launch} {e : Env} {s : State} {m : MethodId} {below : List Frame} {meth : Method} {c : Code} {b L : Nat} {xs : Nat → Int32} {A : Nat → Prop} {D : va_G} {cI cB : ClassId} (hL : L ≤ 2048) (C : zLC p s m c b L xs A D cI cB) {i : Nat} (hi : i + 4 ≤ L) {hX hM : Nat → Nat} {X M : zMm} (hI : Inv X M) (kk : ∀ (hX2 : Nat → Nat) (X2 M2 : zMm), Inv X2 M2 → zAtL p l e s m below meth c b A D cI cB hX2 hM X2 M2 i 790) : zAtL p l e s m below meth c b A D cI cB hX hM X M i 448 := by
  obtain ⟨hx, hb, hml, hown, hts, hXs, hbA, hbl, hK, hA⟩ := C
  intro H locs ls hP hD hS hl
  obtain ⟨r, X2, M2, f1, f2, hI2⟩ := q_closed hI (xs (i + 1))
  refine lv_aload_n hx hb dL_law_448 rfl (lv_at hl 1 rfl) ?_
  refine lv_aload_n hx hb dL_law_449 rfl (lv_at hl 0 rfl) ?_
  refine lv_iload_n hx hb dL_law_450 rfl (lv_at hl 3 rfl) ?_
  refine lv_iconst (v := 1) hx hb dL_law_451 (by decide) ?_
  refine lv_iadd hx hb dL_law_452 ?_
  refine zt (ad1 i) ?_
  refine va_sld hx hb hXs hbl hbA hS (vp_in_nI (by omega) (by omega)) dL_law_453 ?_
  refine z_tc (f := xs) (nI_clamp (by omega)) ?_
  refine zcallL (As := [.int (xs (i + 1))]) (rest := []) ⟨hx, hb, hml, hown, hts⟩ (c_X8_closed l D cI cB hX X (xs (i + 1)) r X2 f1) (cwV 1 hts (z_gV (fun w h => wG_in h) wd_538 wd_539 wd_540 wd_1 wd_541) rfl rfl rfl q_X8_closed ⟨Nat.le_of_ble_eq_true rfl, Nat.le_of_ble_eq_true rfl⟩) hK hP hD hS hA 8 rfl rfl rfl rfl hl.1 (Nat.le_of_ble_eq_true rfl) dL_law_454 ⟨Nat.le_of_ble_eq_true rfl, Nat.le_of_ble_eq_true rfl⟩ rfl (fun H locs hP hD hS => ?_)
  refine lv_aload_n hx hb dL_law_457 rfl (lv_at hl 2 rfl) ?_
  refine lv_aload_n hx hb dL_law_458 rfl (lv_at hl 0 rfl) ?_
  refine lv_iload_n hx hb dL_law_459 rfl (lv_at hl 3 rfl) ?_
  refine lv_iconst (v := 1) hx hb dL_law_460 (by decide) ?_
  refine lv_iadd hx hb dL_law_461 ?_
  refine zt (ad1 i) ?_
  refine va_sld hx hb hXs hbl hbA hS (vp_in_nI (by omega) (by omega)) dL_law_462 ?_
  refine z_tc (f := xs) (nI_clamp (by omega)) ?_
  refine zcallL (As := [.int (xs (i + 1))]) (rest := [.int r]) ⟨hx, hb, hml, hown, hts⟩ (c_X9_closed l D cI cB hM M (xs (i + 1)) r M2 f2) (cwV 1 hts (z_gV (fun w h => wG_in h) wd_854 wd_855 wd_856 wd_15 wd_857) rfl rfl rfl q_X9_closed ⟨Nat.le_of_ble_eq_true rfl, Nat.le_of_ble_eq_true rfl⟩) hK hP hD hS hA 9 rfl rfl rfl rfl hl.1 (Nat.le_of_ble_eq_true rfl) dL_law_463 ⟨Nat.le_of_ble_eq_true rfl, Nat.le_of_ble_eq_true rfl⟩ rfl (fun H locs hP hD hS => ?_)
  refine lv_icmp_eq (tgt := 790) hx hb dL_law_466 (by decide) (fun _ => ?_) (fun c => absurd rfl c)
  exact kk hX X2 M2 hI2 _ _ _ hP hD hS hl
set_option maxHeartbeats 4000000 in
set_option maxRecDepth 100000 in
theorem law_seen {p : Program} {l : Launch} {e : Env} {s : State} {m : MethodId} {below : List Frame} {meth : Method} {c : Code} {b L : Nat} {xs : Nat → Int32} {A : Nat → Prop} {D : va_G} {cI cB : ClassId} (hL : L ≤ 2048) (C : zLC p s m c b L xs A D cI cB) {i : Nat} (hi : i + 4 ≤ L) {hX hM : Nat → Nat} {X M : zMm} (hI : Inv X M) (kk : ∀ (hX2 : Nat → Nat) (X2 M2 : zMm), Inv X2 M2 → zAtL p l e s m below meth c b A D cI cB hX2 hM X2 M2 i 790) : zAtL p l e s m below meth c b A D cI cB hX hM X M i 471 := by
  obtain ⟨hx, hb, hml, hown, hts, hXs, hbA, hbl, hK, hA⟩ := C
  intro H locs ls hP hD hS hl
  obtain ⟨r, X2, M2, f1, f2, hI2⟩ := q_seen hI (xs (i + 1)) (xs (i + 2)) (xs (i + 3))
  refine lv_aload_n hx hb dL_law_471 rfl (lv_at hl 1 rfl) ?_
  refine lv_aload_n hx hb dL_law_472 rfl (lv_at hl 0 rfl) ?_
  refine lv_iload_n hx hb dL_law_473 rfl (lv_at hl 3 rfl) ?_
  refine lv_iconst (v := 1) hx hb dL_law_474 (by decide) ?_
  refine lv_iadd hx hb dL_law_475 ?_
  refine zt (ad1 i) ?_
  refine va_sld hx hb hXs hbl hbA hS (vp_in_nI (by omega) (by omega)) dL_law_476 ?_
  refine z_tc (f := xs) (nI_clamp (by omega)) ?_
  refine lv_aload_n hx hb dL_law_477 rfl (lv_at hl 0 rfl) ?_
  refine lv_iload_n hx hb dL_law_478 rfl (lv_at hl 3 rfl) ?_
  refine lv_iconst (v := 2) hx hb dL_law_479 (by decide) ?_
  refine lv_iadd hx hb dL_law_480 ?_
  refine zt (ad2 i) ?_
  refine va_sld hx hb hXs hbl hbA hS (vp_in_nI (by omega) (by omega)) dL_law_481 ?_
  refine z_tc (f := xs) (nI_clamp (by omega)) ?_
  refine lv_aload_n hx hb dL_law_482 rfl (lv_at hl 0 rfl) ?_
  refine lv_iload_n hx hb dL_law_483 rfl (lv_at hl 3 rfl) ?_
  refine lv_iconst (v := 3) hx hb dL_law_484 (by decide) ?_
  refine lv_iadd hx hb dL_law_485 ?_
  refine zt (ad3 i) ?_
  refine va_sld hx hb hXs hbl hbA hS (vp_in_nI (by omega) (by omega)) dL_law_486 ?_
  refine z_tc (f := xs) (nI_clamp (by omega)) ?_
  refine zcallL (As := [.int (xs (i + 1)), .int (xs (i + 2)), .int (xs (i + 3))]) (rest := []) ⟨hx, hb, hml, hown, hts⟩ (c_X8_seen l D cI cB hX X (xs (i + 1)) (xs (i + 2)) (xs (i + 3)) r X2 f1) (cwV 3 hts (z_gV (fun w h => wG_in h) wd_547 wd_548 wd_549 wd_1 wd_550) rfl rfl rfl q_X8_seen ⟨Nat.le_of_ble_eq_true rfl, Nat.le_of_ble_eq_true rfl⟩) hK hP hD hS hA 8 rfl rfl rfl rfl hl.1 (Nat.le_of_ble_eq_true rfl) dL_law_487 ⟨Nat.le_of_ble_eq_true rfl, Nat.le_of_ble_eq_true rfl⟩ rfl (fun H locs hP hD hS => ?_)
  refine lv_aload_n hx hb dL_law_490 rfl (lv_at hl 2 rfl) ?_
  refine lv_aload_n hx hb dL_law_491 rfl (lv_at hl 0 rfl) ?_
  refine lv_iload_n hx hb dL_law_492 rfl (lv_at hl 3 rfl) ?_
  refine lv_iconst (v := 1) hx hb dL_law_493 (by decide) ?_
  refine lv_iadd hx hb dL_law_494 ?_
  refine zt (ad1 i) ?_
  refine va_sld hx hb hXs hbl hbA hS (vp_in_nI (by omega) (by omega)) dL_law_495 ?_
  refine z_tc (f := xs) (nI_clamp (by omega)) ?_
  refine lv_aload_n hx hb dL_law_496 rfl (lv_at hl 0 rfl) ?_
  refine lv_iload_n hx hb dL_law_497 rfl (lv_at hl 3 rfl) ?_
  refine lv_iconst (v := 2) hx hb dL_law_498 (by decide) ?_
  refine lv_iadd hx hb dL_law_499 ?_
  refine zt (ad2 i) ?_
  refine va_sld hx hb hXs hbl hbA hS (vp_in_nI (by omega) (by omega)) dL_law_500 ?_
  refine z_tc (f := xs) (nI_clamp (by omega)) ?_
  refine lv_aload_n hx hb dL_law_501 rfl (lv_at hl 0 rfl) ?_
  refine lv_iload_n hx hb dL_law_502 rfl (lv_at hl 3 rfl) ?_
  refine lv_iconst (v := 3) hx hb dL_law_503 (by decide) ?_
  refine lv_iadd hx hb dL_law_504 ?_
  refine zt (ad3 i) ?_
  refine va_sld hx hb hXs hbl hbA hS (vp_in_nI (by omega) (by omega)) dL_law_505 ?_
  refine z_tc (f := xs) (nI_clamp (by omega)) ?_
  refine zcallL (As := [.int (xs (i + 1)), .int (xs (i + 2)), .int (xs (i + 3))]) (rest := [.int r]) ⟨hx, hb, hml, hown, hts⟩ (c_X9_seen l D cI cB hM M (xs (i + 1)) (xs (i + 2)) (xs (i + 3)) r M2 f2) (cwV 3 hts (z_gV (fun w h => wG_in h) wd_858 wd_859 wd_860 wd_15 wd_861) rfl rfl rfl q_X9_seen ⟨Nat.le_of_ble_eq_true rfl, Nat.le_of_ble_eq_true rfl⟩) hK hP hD hS hA 9 rfl rfl rfl rfl hl.1 (Nat.le_of_ble_eq_true rfl) dL_law_506 ⟨Nat.le_of_ble_eq_true rfl, Nat.le_of_ble_eq_true rfl⟩ rfl (fun H locs hP hD hS => ?_)
  refine lv_icmp_eq (tgt := 790) hx hb dL_law_509 (by decide) (fun _ => ?_) (fun c => absurd rfl c)
  exact kk hX X2 M2 hI2 _ _ _ hP hD hS hl
