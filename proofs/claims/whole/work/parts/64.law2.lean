/-! the law, call by call -/
set_option maxHeartbeats 4000000 in
set_option maxRecDepth 100000 in
theorem law_forget {p : Program} {l : Launch} {e : Env} {s : State} {m : MethodId} {below : List Frame} {meth : Method} {c : Code} {b L : Nat} {xs : Nat → Int32} {A : Nat → Prop} {D : va_G} {cI cB : ClassId} (hL : L ≤ 2048) (C : zLC p s m c b L xs A D cI cB) {i : Nat} (hi : i + 4 ≤ L) {hX hM : Nat → Nat} {X M : zMm} (hI : Inv X M) (kk : ∀ (hX2 : Nat → Nat) (X2 M2 : zMm), Inv X2 M2 → zAtL p l e s m below meth c b A D cI cB hX2 hM X2 M2 i 790) : zAtL p l e s m below meth c b A D cI cB hX hM X M i 514 := by
  obtain ⟨hx, hb, hml, hown, hts, hXs, hbA, hbl, hK, hA⟩ := C
  intro H locs ls hP hD hS hl
  obtain ⟨r, X2, M2, f1, f2, hI2⟩ := q_forget hI
  refine lv_aload_n hx hb dL_law_514 rfl (lv_at hl 1 rfl) ?_
  refine zcallL (As := []) (rest := []) ⟨hx, hb, hml, hown, hts⟩ (c_X8_forget l D cI cB hX X r X2 f1) (cwV 0 hts (z_gV (fun w h => wG_in h) wd_559 wd_560 wd_561 wd_1 wd_562) rfl rfl rfl q_X8_forget ⟨Nat.le_of_ble_eq_true rfl, Nat.le_of_ble_eq_true rfl⟩) hK hP hD hS hA 8 rfl rfl rfl rfl hl.1 (Nat.le_of_ble_eq_true rfl) dL_law_515 ⟨Nat.le_of_ble_eq_true rfl, Nat.le_of_ble_eq_true rfl⟩ rfl (fun H locs hP hD hS => ?_)
  refine lv_aload_n hx hb dL_law_518 rfl (lv_at hl 2 rfl) ?_
  refine zcallL (As := []) (rest := [.int r]) ⟨hx, hb, hml, hown, hts⟩ (c_X9_forget l D cI cB hM M r M2 f2) (cwV 0 hts (z_gV (fun w h => wG_in h) wd_866 wd_867 wd_868 wd_15 wd_869) rfl rfl rfl q_X9_forget ⟨Nat.le_of_ble_eq_true rfl, Nat.le_of_ble_eq_true rfl⟩) hK hP hD hS hA 9 rfl rfl rfl rfl hl.1 (Nat.le_of_ble_eq_true rfl) dL_law_519 ⟨Nat.le_of_ble_eq_true rfl, Nat.le_of_ble_eq_true rfl⟩ rfl (fun H locs hP hD hS => ?_)
  refine lv_icmp_eq (tgt := 790) hx hb dL_law_522 (by decide) (fun _ => ?_) (fun c => absurd rfl c)
  exact kk hX X2 M2 hI2 _ _ _ hP hD hS hl
set_option maxHeartbeats 4000000 in
set_option maxRecDepth 100000 in
theorem law_inch {p : Program} {l : Launch} {e : Env} {s : State} {m : MethodId} {below : List Frame} {meth : Method} {c : Code} {b L : Nat} {xs : Nat → Int32} {A : Nat → Prop} {D : va_G} {cI cB : ClassId} (hL : L ≤ 2048) (C : zLC p s m c b L xs A D cI cB) {i : Nat} (hi : i + 4 ≤ L) {hX hM : Nat → Nat} {X M : zMm} (hI : Inv X M) (kk : ∀ (hX2 : Nat → Nat) (X2 M2 : zMm), Inv X2 M2 → zAtL p l e s m below meth c b A D cI cB hX2 hM X2 M2 i 790) : zAtL p l e s m below meth c b A D cI cB hX hM X M i 527 := by
  obtain ⟨hx, hb, hml, hown, hts, hXs, hbA, hbl, hK, hA⟩ := C
  intro H locs ls hP hD hS hl
  obtain ⟨r, f1, f2⟩ := q_inch hI (xs (i + 1)) (xs (i + 2))
  refine lv_aload_n hx hb dL_law_527 rfl (lv_at hl 1 rfl) ?_
  refine lv_aload_n hx hb dL_law_528 rfl (lv_at hl 0 rfl) ?_
  refine lv_iload_n hx hb dL_law_529 rfl (lv_at hl 3 rfl) ?_
  refine lv_iconst (v := 1) hx hb dL_law_530 (by decide) ?_
  refine lv_iadd hx hb dL_law_531 ?_
  refine zt (ad1 i) ?_
  refine va_sld hx hb hXs hbl hbA hS (vp_in_nI (by omega) (by omega)) dL_law_532 ?_
  refine z_tc (f := xs) (nI_clamp (by omega)) ?_
  refine lv_aload_n hx hb dL_law_533 rfl (lv_at hl 0 rfl) ?_
  refine lv_iload_n hx hb dL_law_534 rfl (lv_at hl 3 rfl) ?_
  refine lv_iconst (v := 2) hx hb dL_law_535 (by decide) ?_
  refine lv_iadd hx hb dL_law_536 ?_
  refine zt (ad2 i) ?_
  refine va_sld hx hb hXs hbl hbA hS (vp_in_nI (by omega) (by omega)) dL_law_537 ?_
  refine z_tc (f := xs) (nI_clamp (by omega)) ?_
  refine zcallVi (As := [.int (xs (i + 1)), .int (xs (i + 2))]) (ws2 := w8 cI cB hX X ++ w9 cI cB hM M) (rest := []) ⟨hx, hb, hml, hown, hts⟩ (c_X8_inch l D cI cB hX X (xs (i + 1)) (xs (i + 2)) r f1) (cwV 2 hts (z_gV (fun w h => wG_in h) wd_563 wd_564 wd_565 wd_1 wd_566) rfl rfl rfl q_X8_inch ⟨Nat.le_of_ble_eq_true rfl, Nat.le_of_ble_eq_true rfl⟩) hK hP hD hS hA 8 rfl rfl rfl [0, 13, 14, 15, 16, 31] [1, 2, 3, 4, 5, 6, 7, 8, 9, 10, 11, 12, 17, 18, 19, 20, 21, 22, 23, 24, 25, 26, 27, 28, 29, 30, 32, 33, 34, 35, 36, 37, 38, 39, 40, 41, 42, 43, 44, 45, 46, 47, 48, 49, 50, 51, 52, 53, 54, 55, 56, 57, 58, 59, 60, 61, 62] rfl rfl rfl rfl rfl rfl rfl hl.1 (Nat.le_of_ble_eq_true rfl) dL_law_538 ⟨Nat.le_of_ble_eq_true rfl, Nat.le_of_ble_eq_true rfl⟩ rfl (fun H locs hP hD hS => ?_)
  refine lv_aload_n hx hb dL_law_541 rfl (lv_at hl 2 rfl) ?_
  refine lv_aload_n hx hb dL_law_542 rfl (lv_at hl 0 rfl) ?_
  refine lv_iload_n hx hb dL_law_543 rfl (lv_at hl 3 rfl) ?_
  refine lv_iconst (v := 1) hx hb dL_law_544 (by decide) ?_
  refine lv_iadd hx hb dL_law_545 ?_
  refine zt (ad1 i) ?_
  refine va_sld hx hb hXs hbl hbA hS (vp_in_nI (by omega) (by omega)) dL_law_546 ?_
  refine z_tc (f := xs) (nI_clamp (by omega)) ?_
  refine lv_aload_n hx hb dL_law_547 rfl (lv_at hl 0 rfl) ?_
  refine lv_iload_n hx hb dL_law_548 rfl (lv_at hl 3 rfl) ?_
  refine lv_iconst (v := 2) hx hb dL_law_549 (by decide) ?_
  refine lv_iadd hx hb dL_law_550 ?_
  refine zt (ad2 i) ?_
  refine va_sld hx hb hXs hbl hbA hS (vp_in_nI (by omega) (by omega)) dL_law_551 ?_
  refine z_tc (f := xs) (nI_clamp (by omega)) ?_
  refine zcallVi (As := [.int (xs (i + 1)), .int (xs (i + 2))]) (ws2 := w8 cI cB hX X ++ w9 cI cB hM M) (rest := [.int r]) ⟨hx, hb, hml, hown, hts⟩ (c_X9_inch l D cI cB hM M (xs (i + 1)) (xs (i + 2)) r f2) (cwV 2 hts (z_gV (fun w h => wG_in h) wd_870 wd_871 wd_872 wd_15 wd_873) rfl rfl rfl q_X9_inch ⟨Nat.le_of_ble_eq_true rfl, Nat.le_of_ble_eq_true rfl⟩) hK hP hD hS hA 9 rfl rfl rfl [45, 48, 55] [0, 1, 2, 3, 4, 5, 6, 7, 8, 9, 10, 11, 12, 13, 14, 15, 16, 17, 18, 19, 20, 21, 22, 23, 24, 25, 26, 27, 28, 29, 30, 31, 32, 33, 34, 35, 36, 37, 38, 39, 40, 41, 42, 43, 44, 46, 47, 49, 50, 51, 52, 53, 54, 56, 57, 58, 59, 60, 61, 62] rfl rfl rfl rfl rfl rfl rfl hl.1 (Nat.le_of_ble_eq_true rfl) dL_law_552 ⟨Nat.le_of_ble_eq_true rfl, Nat.le_of_ble_eq_true rfl⟩ rfl (fun H locs hP hD hS => ?_)
  refine lv_icmp_eq (tgt := 790) hx hb dL_law_555 (by decide) (fun _ => ?_) (fun c => absurd rfl c)
  exact kk hX X M hI _ _ _ hP hD hS hl
set_option maxHeartbeats 4000000 in
set_option maxRecDepth 100000 in
theorem law_added {p : Program} {l : Launch} {e : Env} {s : State} {m : MethodId} {below : List Frame} {meth : Method} {c : Code} {b L : Nat} {xs : Nat → Int32} {A : Nat → Prop} {D : va_G} {cI cB : ClassId} (hL : L ≤ 2048) (C : zLC p s m c b L xs A D cI cB) {i : Nat} (hi : i + 4 ≤ L) {hX hM : Nat → Nat} {X M : zMm} (hI : Inv X M) (kk : ∀ (hX2 : Nat → Nat) (X2 M2 : zMm), Inv X2 M2 → zAtL p l e s m below meth c b A D cI cB hX2 hM X2 M2 i 790) : zAtL p l e s m below meth c b A D cI cB hX hM X M i 560 := by
  obtain ⟨hx, hb, hml, hown, hts, hXs, hbA, hbl, hK, hA⟩ := C
  intro H locs ls hP hD hS hl
  obtain ⟨r, f1, f2⟩ := q_added hI (xs (i + 1)) (xs (i + 2))
  refine lv_aload_n hx hb dL_law_560 rfl (lv_at hl 1 rfl) ?_
  refine lv_aload_n hx hb dL_law_561 rfl (lv_at hl 0 rfl) ?_
  refine lv_iload_n hx hb dL_law_562 rfl (lv_at hl 3 rfl) ?_
  refine lv_iconst (v := 1) hx hb dL_law_563 (by decide) ?_
  refine lv_iadd hx hb dL_law_564 ?_
  refine zt (ad1 i) ?_
  refine va_sld hx hb hXs hbl hbA hS (vp_in_nI (by omega) (by omega)) dL_law_565 ?_
  refine z_tc (f := xs) (nI_clamp (by omega)) ?_
  refine lv_aload_n hx hb dL_law_566 rfl (lv_at hl 0 rfl) ?_
  refine lv_iload_n hx hb dL_law_567 rfl (lv_at hl 3 rfl) ?_
  refine lv_iconst (v := 2) hx hb dL_law_568 (by decide) ?_
  refine lv_iadd hx hb dL_law_569 ?_
  refine zt (ad2 i) ?_
  refine va_sld hx hb hXs hbl hbA hS (vp_in_nI (by omega) (by omega)) dL_law_570 ?_
  refine z_tc (f := xs) (nI_clamp (by omega)) ?_
  refine zcallVi (As := [.int (xs (i + 1)), .int (xs (i + 2))]) (ws2 := w8 cI cB hX X ++ w9 cI cB hM M) (rest := []) ⟨hx, hb, hml, hown, hts⟩ (c_X8_added l D cI cB hX X (xs (i + 1)) (xs (i + 2)) r f1) (cwV 2 hts (z_gV (fun w h => wG_in h) wd_572 wd_573 wd_574 wd_1 wd_575) rfl rfl rfl q_X8_added ⟨Nat.le_of_ble_eq_true rfl, Nat.le_of_ble_eq_true rfl⟩) hK hP hD hS hA 8 rfl rfl rfl [0, 31, 32, 33, 34] [1, 2, 3, 4, 5, 6, 7, 8, 9, 10, 11, 12, 13, 14, 15, 16, 17, 18, 19, 20, 21, 22, 23, 24, 25, 26, 27, 28, 29, 30, 35, 36, 37, 38, 39, 40, 41, 42, 43, 44, 45, 46, 47, 48, 49, 50, 51, 52, 53, 54, 55, 56, 57, 58, 59, 60, 61, 62] rfl rfl rfl rfl rfl rfl rfl hl.1 (Nat.le_of_ble_eq_true rfl) dL_law_571 ⟨Nat.le_of_ble_eq_true rfl, Nat.le_of_ble_eq_true rfl⟩ rfl (fun H locs hP hD hS => ?_)
  refine lv_aload_n hx hb dL_law_574 rfl (lv_at hl 2 rfl) ?_
  refine lv_aload_n hx hb dL_law_575 rfl (lv_at hl 0 rfl) ?_
  refine lv_iload_n hx hb dL_law_576 rfl (lv_at hl 3 rfl) ?_
  refine lv_iconst (v := 1) hx hb dL_law_577 (by decide) ?_
  refine lv_iadd hx hb dL_law_578 ?_
  refine zt (ad1 i) ?_
  refine va_sld hx hb hXs hbl hbA hS (vp_in_nI (by omega) (by omega)) dL_law_579 ?_
  refine z_tc (f := xs) (nI_clamp (by omega)) ?_
  refine lv_aload_n hx hb dL_law_580 rfl (lv_at hl 0 rfl) ?_
  refine lv_iload_n hx hb dL_law_581 rfl (lv_at hl 3 rfl) ?_
  refine lv_iconst (v := 2) hx hb dL_law_582 (by decide) ?_
  refine lv_iadd hx hb dL_law_583 ?_
  refine zt (ad2 i) ?_
  refine va_sld hx hb hXs hbl hbA hS (vp_in_nI (by omega) (by omega)) dL_law_584 ?_
  refine z_tc (f := xs) (nI_clamp (by omega)) ?_
  refine zcallVi (As := [.int (xs (i + 1)), .int (xs (i + 2))]) (ws2 := w8 cI cB hX X ++ w9 cI cB hM M) (rest := [.int r]) ⟨hx, hb, hml, hown, hts⟩ (c_X9_added l D cI cB hM M (xs (i + 1)) (xs (i + 2)) r f2) (cwV 2 hts (z_gV (fun w h => wG_in h) wd_874 wd_875 wd_876 wd_15 wd_877) rfl rfl rfl q_X9_added ⟨Nat.le_of_ble_eq_true rfl, Nat.le_of_ble_eq_true rfl⟩) hK hP hD hS hA 9 rfl rfl rfl [45, 49, 50, 51] [0, 1, 2, 3, 4, 5, 6, 7, 8, 9, 10, 11, 12, 13, 14, 15, 16, 17, 18, 19, 20, 21, 22, 23, 24, 25, 26, 27, 28, 29, 30, 31, 32, 33, 34, 35, 36, 37, 38, 39, 40, 41, 42, 43, 44, 46, 47, 48, 52, 53, 54, 55, 56, 57, 58, 59, 60, 61, 62] rfl rfl rfl rfl rfl rfl rfl hl.1 (Nat.le_of_ble_eq_true rfl) dL_law_585 ⟨Nat.le_of_ble_eq_true rfl, Nat.le_of_ble_eq_true rfl⟩ rfl (fun H locs hP hD hS => ?_)
  refine lv_icmp_eq (tgt := 790) hx hb dL_law_588 (by decide) (fun _ => ?_) (fun c => absurd rfl c)
  exact kk hX X M hI _ _ _ hP hD hS hl
set_option maxHeartbeats 4000000 in
set_option maxRecDepth 100000 in
theorem law_bolts {p : Program} {l : Launch} {e : Env} {s : State} {m : MethodId} {below : List Frame} {meth : Method} {c : Code} {b L : Nat} {xs : Nat → Int32} {A : Nat → Prop} {D : va_G} {cI cB : ClassId} (hL : L ≤ 2048) (C : zLC p s m c b L xs A D cI cB) {i : Nat} (hi : i + 4 ≤ L) {hX hM : Nat → Nat} {X M : zMm} (hI : Inv X M) (kk : ∀ (hX2 : Nat → Nat) (X2 M2 : zMm), Inv X2 M2 → zAtL p l e s m below meth c b A D cI cB hX2 hM X2 M2 i 790) : zAtL p l e s m below meth c b A D cI cB hX hM X M i 593 := by
  obtain ⟨hx, hb, hml, hown, hts, hXs, hbA, hbl, hK, hA⟩ := C
  intro H locs ls hP hD hS hl
  obtain ⟨r, X2, M2, f1, f2, hI2⟩ := q_bolts hI (xs (i + 1))
  refine lv_aload_n hx hb dL_law_593 rfl (lv_at hl 1 rfl) ?_
  refine lv_aload_n hx hb dL_law_594 rfl (lv_at hl 0 rfl) ?_
  refine lv_iload_n hx hb dL_law_595 rfl (lv_at hl 3 rfl) ?_
  refine lv_iconst (v := 1) hx hb dL_law_596 (by decide) ?_
  refine lv_iadd hx hb dL_law_597 ?_
  refine zt (ad1 i) ?_
  refine va_sld hx hb hXs hbl hbA hS (vp_in_nI (by omega) (by omega)) dL_law_598 ?_
  refine z_tc (f := xs) (nI_clamp (by omega)) ?_
  refine zcallL (As := [.int (xs (i + 1))]) (rest := []) ⟨hx, hb, hml, hown, hts⟩ (c_X8_bolts l D cI cB hX X (xs (i + 1)) r X2 f1) (cwV 1 hts (z_gV (fun w h => wG_in h) wd_576 wd_577 wd_578 wd_1 wd_579) rfl rfl rfl q_X8_bolts ⟨Nat.le_of_ble_eq_true rfl, Nat.le_of_ble_eq_true rfl⟩) hK hP hD hS hA 8 rfl rfl rfl rfl hl.1 (Nat.le_of_ble_eq_true rfl) dL_law_599 ⟨Nat.le_of_ble_eq_true rfl, Nat.le_of_ble_eq_true rfl⟩ rfl (fun H locs hP hD hS => ?_)
  refine lv_aload_n hx hb dL_law_602 rfl (lv_at hl 2 rfl) ?_
  refine lv_aload_n hx hb dL_law_603 rfl (lv_at hl 0 rfl) ?_
  refine lv_iload_n hx hb dL_law_604 rfl (lv_at hl 3 rfl) ?_
  refine lv_iconst (v := 1) hx hb dL_law_605 (by decide) ?_
  refine lv_iadd hx hb dL_law_606 ?_
  refine zt (ad1 i) ?_
  refine va_sld hx hb hXs hbl hbA hS (vp_in_nI (by omega) (by omega)) dL_law_607 ?_
  refine z_tc (f := xs) (nI_clamp (by omega)) ?_
  refine zcallL (As := [.int (xs (i + 1))]) (rest := [.int r]) ⟨hx, hb, hml, hown, hts⟩ (c_X9_bolts l D cI cB hM M (xs (i + 1)) r M2 f2) (cwV 1 hts (z_gV (fun w h => wG_in h) wd_878 wd_879 wd_880 wd_15 wd_881) rfl rfl rfl q_X9_bolts ⟨Nat.le_of_ble_eq_true rfl, Nat.le_of_ble_eq_true rfl⟩) hK hP hD hS hA 9 rfl rfl rfl rfl hl.1 (Nat.le_of_ble_eq_true rfl) dL_law_608 ⟨Nat.le_of_ble_eq_true rfl, Nat.le_of_ble_eq_true rfl⟩ rfl (fun H locs hP hD hS => ?_)
  refine lv_icmp_eq (tgt := 790) hx hb dL_law_611 (by decide) (fun _ => ?_) (fun c => absurd rfl c)
  exact kk hX X2 M2 hI2 _ _ _ hP hD hS hl
set_option maxHeartbeats 4000000 in
set_option maxRecDepth 100000 in
theorem law_coat {p : Program} {l : Launch} {e : Env} {s : State} {m : MethodId} {below : List Frame} {meth : Method} {c : Code} {b L : Nat} {xs : Nat → Int32} {A : Nat → Prop} {D : va_G} {cI cB : ClassId} (hL : L ≤ 2048) (C : zLC p s m c b L xs A D cI cB) {i : Nat} (hi : i + 4 ≤ L) {hX hM : Nat → Nat} {X M : zMm} (hI : Inv X M) (kk : ∀ (hX2 : Nat → Nat) (X2 M2 : zMm), Inv X2 M2 → zAtL p l e s m below meth c b A D cI cB hX2 hM X2 M2 i 790) : zAtL p l e s m below meth c b A D cI cB hX hM X M i 616 := by
  obtain ⟨hx, hb, hml, hown, hts, hXs, hbA, hbl, hK, hA⟩ := C
  intro H locs ls hP hD hS hl
  obtain ⟨r, X2, M2, f1, f2, hI2⟩ := q_coat hI (xs (i + 1))
  refine lv_aload_n hx hb dL_law_616 rfl (lv_at hl 1 rfl) ?_
  refine lv_aload_n hx hb dL_law_617 rfl (lv_at hl 0 rfl) ?_
  refine lv_iload_n hx hb dL_law_618 rfl (lv_at hl 3 rfl) ?_
  refine lv_iconst (v := 1) hx hb dL_law_619 (by decide) ?_
  refine lv_iadd hx hb dL_law_620 ?_
  refine zt (ad1 i) ?_
  refine va_sld hx hb hXs hbl hbA hS (vp_in_nI (by omega) (by omega)) dL_law_621 ?_
  refine z_tc (f := xs) (nI_clamp (by omega)) ?_
  refine zcallL (As := [.int (xs (i + 1))]) (rest := []) ⟨hx, hb, hml, hown, hts⟩ (c_X8_coat l D cI cB hX X (xs (i + 1)) r X2 f1) (cwV 1 hts (z_gV (fun w h => wG_in h) wd_593 wd_594 wd_595 wd_1 wd_596) rfl rfl rfl q_X8_coat ⟨Nat.le_of_ble_eq_true rfl, Nat.le_of_ble_eq_true rfl⟩) hK hP hD hS hA 8 rfl rfl rfl rfl hl.1 (Nat.le_of_ble_eq_true rfl) dL_law_622 ⟨Nat.le_of_ble_eq_true rfl, Nat.le_of_ble_eq_true rfl⟩ rfl (fun H locs hP hD hS => ?_)
  refine lv_aload_n hx hb dL_law_625 rfl (lv_at hl 2 rfl) ?_
  refine lv_aload_n hx hb dL_law_626 rfl (lv_at hl 0 rfl) ?_
  refine lv_iload_n hx hb dL_law_627 rfl (lv_at hl 3 rfl) ?_
  refine lv_iconst (v := 1) hx hb dL_law_628 (by decide) ?_
  refine lv_iadd hx hb dL_law_629 ?_
  refine zt (ad1 i) ?_
  refine va_sld hx hb hXs hbl hbA hS (vp_in_nI (by omega) (by omega)) dL_law_630 ?_
  refine z_tc (f := xs) (nI_clamp (by omega)) ?_
  refine zcallL (As := [.int (xs (i + 1))]) (rest := [.int r]) ⟨hx, hb, hml, hown, hts⟩ (c_X9_coat l D cI cB hM M (xs (i + 1)) r M2 f2) (cwV 1 hts (z_gV (fun w h => wG_in h) wd_890 wd_891 wd_892 wd_15 wd_893) rfl rfl rfl q_X9_coat ⟨Nat.le_of_ble_eq_true rfl, Nat.le_of_ble_eq_true rfl⟩) hK hP hD hS hA 9 rfl rfl rfl rfl hl.1 (Nat.le_of_ble_eq_true rfl) dL_law_631 ⟨Nat.le_of_ble_eq_true rfl, Nat.le_of_ble_eq_true rfl⟩ rfl (fun H locs hP hD hS => ?_)
  refine lv_icmp_eq (tgt := 790) hx hb dL_law_634 (by decide) (fun _ => ?_) (fun c => absurd rfl c)
  exact kk hX X2 M2 hI2 _ _ _ hP hD hS hl
set_option maxHeartbeats 4000000 in
set_option maxRecDepth 100000 in
theorem law_pin {p : Program} {l : Launch} {e : Env} {s : State} {m : MethodId} {below : List Frame} {meth : Method} {c : Code} {b L : Nat} {xs : Nat → Int32} {A : Nat → Prop} {D : va_G} {cI cB : ClassId} (hL : L ≤ 2048) (C : zLC p s m c b L xs A D cI cB) {i : Nat} (hi : i + 4 ≤ L) {hX hM : Nat → Nat} {X M : zMm} (hI : Inv X M) (kk : ∀ (hX2 : Nat → Nat) (X2 M2 : zMm), Inv X2 M2 → zAtL p l e s m below meth c b A D cI cB hX2 hM X2 M2 i 790) : zAtL p l e s m below meth c b A D cI cB hX hM X M i 639 := by
  obtain ⟨hx, hb, hml, hown, hts, hXs, hbA, hbl, hK, hA⟩ := C
  intro H locs ls hP hD hS hl
  obtain ⟨r, X2, M2, f1, f2, hI2⟩ := q_pin hI (xs (i + 1))
  refine lv_aload_n hx hb dL_law_639 rfl (lv_at hl 1 rfl) ?_
  refine lv_aload_n hx hb dL_law_640 rfl (lv_at hl 0 rfl) ?_
  refine lv_iload_n hx hb dL_law_641 rfl (lv_at hl 3 rfl) ?_
  refine lv_iconst (v := 1) hx hb dL_law_642 (by decide) ?_
  refine lv_iadd hx hb dL_law_643 ?_
  refine zt (ad1 i) ?_
  refine va_sld hx hb hXs hbl hbA hS (vp_in_nI (by omega) (by omega)) dL_law_644 ?_
  refine z_tc (f := xs) (nI_clamp (by omega)) ?_
  refine zcallL (As := [.int (xs (i + 1))]) (rest := []) ⟨hx, hb, hml, hown, hts⟩ (c_X8_pin l D cI cB hX X (xs (i + 1)) r X2 f1) (cwV 1 hts (z_gV (fun w h => wG_in h) wd_598 wd_599 wd_600 wd_1 wd_601) rfl rfl rfl q_X8_pin ⟨Nat.le_of_ble_eq_true rfl, Nat.le_of_ble_eq_true rfl⟩) hK hP hD hS hA 8 rfl rfl rfl rfl hl.1 (Nat.le_of_ble_eq_true rfl) dL_law_645 ⟨Nat.le_of_ble_eq_true rfl, Nat.le_of_ble_eq_true rfl⟩ rfl (fun H locs hP hD hS => ?_)
  refine lv_aload_n hx hb dL_law_648 rfl (lv_at hl 2 rfl) ?_
  refine lv_aload_n hx hb dL_law_649 rfl (lv_at hl 0 rfl) ?_
  refine lv_iload_n hx hb dL_law_650 rfl (lv_at hl 3 rfl) ?_
  refine lv_iconst (v := 1) hx hb dL_law_651 (by decide) ?_
  refine lv_iadd hx hb dL_law_652 ?_
  refine zt (ad1 i) ?_
  refine va_sld hx hb hXs hbl hbA hS (vp_in_nI (by omega) (by omega)) dL_law_653 ?_
  refine z_tc (f := xs) (nI_clamp (by omega)) ?_
  refine zcallL (As := [.int (xs (i + 1))]) (rest := [.int r]) ⟨hx, hb, hml, hown, hts⟩ (c_X9_pin l D cI cB hM M (xs (i + 1)) r M2 f2) (cwV 1 hts (z_gV (fun w h => wG_in h) wd_894 wd_895 wd_896 wd_15 wd_897) rfl rfl rfl q_X9_pin ⟨Nat.le_of_ble_eq_true rfl, Nat.le_of_ble_eq_true rfl⟩) hK hP hD hS hA 9 rfl rfl rfl rfl hl.1 (Nat.le_of_ble_eq_true rfl) dL_law_654 ⟨Nat.le_of_ble_eq_true rfl, Nat.le_of_ble_eq_true rfl⟩ rfl (fun H locs hP hD hS => ?_)
  refine lv_icmp_eq (tgt := 790) hx hb dL_law_657 (by decide) (fun _ => ?_) (fun c => absurd rfl c)
  exact kk hX X2 M2 hI2 _ _ _ hP hD hS hl
