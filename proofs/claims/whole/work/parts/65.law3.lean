/-! the law, call by call -/
set_option maxHeartbeats 4000000 in
set_option maxRecDepth 100000 in
theorem law_noPins {p : Program} {l : Launch} {e : Env} {s : State} {m : MethodId} {below : List Frame} {meth : Method} {c : Code} {b L : Nat} {xs : Nat → Int32} {A : Nat → Prop} {D : va_G} {cI cB : ClassId} (hL : L ≤ 2048) (C : zLC p s m c b L xs A D cI cB) {i : Nat} (hi : i + 4 ≤ L) {hX hM : Nat → Nat} {X M : zMm} (hI : Inv X M) (kk : ∀ (hX2 : Nat → Nat) (X2 M2 : zMm), Inv X2 M2 → zAtL p l e s m below meth c b A D cI cB hX2 hM X2 M2 i 790) : zAtL p l e s m below meth c b A D cI cB hX hM X M i 662 := by
  obtain ⟨hx, hb, hml, hown, hts, hXs, hbA, hbl, hK, hA⟩ := C
  intro H locs ls hP hD hS hl
  obtain ⟨r, X2, M2, f1, f2, hI2⟩ := q_noPins hI
  refine lv_aload_n hx hb dL_law_662 rfl (lv_at hl 1 rfl) ?_
  refine zcallL (As := []) (rest := []) ⟨hx, hb, hml, hown, hts⟩ (c_X8_noPins l D cI cB hX X r X2 f1) (cwV 0 hts (z_gV (fun w h => wG_in h) wd_610 wd_611 wd_612 wd_1 wd_613) rfl rfl rfl q_X8_noPins ⟨Nat.le_of_ble_eq_true rfl, Nat.le_of_ble_eq_true rfl⟩) hK hP hD hS hA 8 rfl rfl rfl rfl hl.1 (Nat.le_of_ble_eq_true rfl) dL_law_663 ⟨Nat.le_of_ble_eq_true rfl, Nat.le_of_ble_eq_true rfl⟩ rfl (fun H locs hP hD hS => ?_)
  refine lv_aload_n hx hb dL_law_666 rfl (lv_at hl 2 rfl) ?_
  refine zcallL (As := []) (rest := [.int r]) ⟨hx, hb, hml, hown, hts⟩ (c_X9_noPins l D cI cB hM M r M2 f2) (cwV 0 hts (z_gV (fun w h => wG_in h) wd_902 wd_903 wd_904 wd_15 wd_905) rfl rfl rfl q_X9_noPins ⟨Nat.le_of_ble_eq_true rfl, Nat.le_of_ble_eq_true rfl⟩) hK hP hD hS hA 9 rfl rfl rfl rfl hl.1 (Nat.le_of_ble_eq_true rfl) dL_law_667 ⟨Nat.le_of_ble_eq_true rfl, Nat.le_of_ble_eq_true rfl⟩ rfl (fun H locs hP hD hS => ?_)
  refine lv_icmp_eq (tgt := 790) hx hb dL_law_670 (by decide) (fun _ => ?_) (fun c => absurd rfl c)
  exact kk hX X2 M2 hI2 _ _ _ hP hD hS hl
set_option maxHeartbeats 4000000 in
set_option maxRecDepth 100000 in
theorem law_thumb {p : Program} {l : Launch} {e : Env} {s : State} {m : MethodId} {below : List Frame} {meth : Method} {c : Code} {b L : Nat} {xs : Nat → Int32} {A : Nat → Prop} {D : va_G} {cI cB : ClassId} (hL : L ≤ 2048) (C : zLC p s m c b L xs A D cI cB) {i : Nat} (hi : i + 4 ≤ L) {hX hM : Nat → Nat} {X M : zMm} (hI : Inv X M) (kk : ∀ (hX2 : Nat → Nat) (X2 M2 : zMm), Inv X2 M2 → zAtL p l e s m below meth c b A D cI cB hX2 hM X2 M2 i 790) : zAtL p l e s m below meth c b A D cI cB hX hM X M i 675 := by
  obtain ⟨hx, hb, hml, hown, hts, hXs, hbA, hbl, hK, hA⟩ := C
  intro H locs ls hP hD hS hl
  obtain ⟨r, f1, f2⟩ := q_thumb hI (xs (i + 1))
  refine lv_aload_n hx hb dL_law_675 rfl (lv_at hl 1 rfl) ?_
  refine lv_aload_n hx hb dL_law_676 rfl (lv_at hl 0 rfl) ?_
  refine lv_iload_n hx hb dL_law_677 rfl (lv_at hl 3 rfl) ?_
  refine lv_iconst (v := 1) hx hb dL_law_678 (by decide) ?_
  refine lv_iadd hx hb dL_law_679 ?_
  refine zt (ad1 i) ?_
  refine va_sld hx hb hXs hbl hbA hS (vp_in_nI (by omega) (by omega)) dL_law_680 ?_
  refine z_tc (f := xs) (nI_clamp (by omega)) ?_
  refine zcallVi (As := [.int (xs (i + 1))]) (ws2 := w8 cI cB hX X ++ w9 cI cB hM M) (rest := []) ⟨hx, hb, hml, hown, hts⟩ (c_X8_thumb l D cI cB hX X (xs (i + 1)) r f1) (cwV 1 hts (z_gV (fun w h => wG_in h) wd_614 wd_615 wd_616 wd_1 wd_617) rfl rfl rfl q_X8_thumb ⟨Nat.le_of_ble_eq_true rfl, Nat.le_of_ble_eq_true rfl⟩) hK hP hD hS hA 8 rfl rfl rfl [0, 17, 19] [1, 2, 3, 4, 5, 6, 7, 8, 9, 10, 11, 12, 13, 14, 15, 16, 18, 20, 21, 22, 23, 24, 25, 26, 27, 28, 29, 30, 31, 32, 33, 34, 35, 36, 37, 38, 39, 40, 41, 42, 43, 44, 45, 46, 47, 48, 49, 50, 51, 52, 53, 54, 55, 56, 57, 58, 59, 60, 61, 62] rfl rfl rfl rfl rfl rfl rfl hl.1 (Nat.le_of_ble_eq_true rfl) dL_law_681 ⟨Nat.le_of_ble_eq_true rfl, Nat.le_of_ble_eq_true rfl⟩ rfl (fun H locs hP hD hS => ?_)
  refine lv_aload_n hx hb dL_law_684 rfl (lv_at hl 2 rfl) ?_
  refine lv_aload_n hx hb dL_law_685 rfl (lv_at hl 0 rfl) ?_
  refine lv_iload_n hx hb dL_law_686 rfl (lv_at hl 3 rfl) ?_
  refine lv_iconst (v := 1) hx hb dL_law_687 (by decide) ?_
  refine lv_iadd hx hb dL_law_688 ?_
  refine zt (ad1 i) ?_
  refine va_sld hx hb hXs hbl hbA hS (vp_in_nI (by omega) (by omega)) dL_law_689 ?_
  refine z_tc (f := xs) (nI_clamp (by omega)) ?_
  refine zcallVi (As := [.int (xs (i + 1))]) (ws2 := w8 cI cB hX X ++ w9 cI cB hM M) (rest := [.int r]) ⟨hx, hb, hml, hown, hts⟩ (c_X9_thumb l D cI cB hM M (xs (i + 1)) r f2) (cwV 1 hts (z_gV (fun w h => wG_in h) wd_906 wd_907 wd_908 wd_15 wd_909) rfl rfl rfl q_X9_thumb ⟨Nat.le_of_ble_eq_true rfl, Nat.le_of_ble_eq_true rfl⟩) hK hP hD hS hA 9 rfl rfl rfl [45, 51, 53, 56] [0, 1, 2, 3, 4, 5, 6, 7, 8, 9, 10, 11, 12, 13, 14, 15, 16, 17, 18, 19, 20, 21, 22, 23, 24, 25, 26, 27, 28, 29, 30, 31, 32, 33, 34, 35, 36, 37, 38, 39, 40, 41, 42, 43, 44, 46, 47, 48, 49, 50, 52, 54, 55, 57, 58, 59, 60, 61, 62] rfl rfl rfl rfl rfl rfl rfl hl.1 (Nat.le_of_ble_eq_true rfl) dL_law_690 ⟨Nat.le_of_ble_eq_true rfl, Nat.le_of_ble_eq_true rfl⟩ rfl (fun H locs hP hD hS => ?_)
  refine lv_icmp_eq (tgt := 790) hx hb dL_law_693 (by decide) (fun _ => ?_) (fun c => absurd rfl c)
  exact kk hX X M hI _ _ _ hP hD hS hl
set_option maxHeartbeats 4000000 in
set_option maxRecDepth 100000 in
theorem law_year {p : Program} {l : Launch} {e : Env} {s : State} {m : MethodId} {below : List Frame} {meth : Method} {c : Code} {b L : Nat} {xs : Nat → Int32} {A : Nat → Prop} {D : va_G} {cI cB : ClassId} (hL : L ≤ 2048) (C : zLC p s m c b L xs A D cI cB) {i : Nat} (hi : i + 4 ≤ L) {hX hM : Nat → Nat} {X M : zMm} (hI : Inv X M) (kk : ∀ (hX2 : Nat → Nat) (X2 M2 : zMm), Inv X2 M2 → zAtL p l e s m below meth c b A D cI cB hX2 hM X2 M2 i 790) : zAtL p l e s m below meth c b A D cI cB hX hM X M i 698 := by
  obtain ⟨hx, hb, hml, hown, hts, hXs, hbA, hbl, hK, hA⟩ := C
  intro H locs ls hP hD hS hl
  obtain ⟨r, X2, M2, f1, f2, hI2⟩ := q_year hI (xs (i + 1)) (xs (i + 2)) (xs (i + 3))
  refine lv_aload_n hx hb dL_law_698 rfl (lv_at hl 1 rfl) ?_
  refine lv_aload_n hx hb dL_law_699 rfl (lv_at hl 0 rfl) ?_
  refine lv_iload_n hx hb dL_law_700 rfl (lv_at hl 3 rfl) ?_
  refine lv_iconst (v := 1) hx hb dL_law_701 (by decide) ?_
  refine lv_iadd hx hb dL_law_702 ?_
  refine zt (ad1 i) ?_
  refine va_sld hx hb hXs hbl hbA hS (vp_in_nI (by omega) (by omega)) dL_law_703 ?_
  refine z_tc (f := xs) (nI_clamp (by omega)) ?_
  refine lv_aload_n hx hb dL_law_704 rfl (lv_at hl 0 rfl) ?_
  refine lv_iload_n hx hb dL_law_705 rfl (lv_at hl 3 rfl) ?_
  refine lv_iconst (v := 2) hx hb dL_law_706 (by decide) ?_
  refine lv_iadd hx hb dL_law_707 ?_
  refine zt (ad2 i) ?_
  refine va_sld hx hb hXs hbl hbA hS (vp_in_nI (by omega) (by omega)) dL_law_708 ?_
  refine z_tc (f := xs) (nI_clamp (by omega)) ?_
  refine lv_aload_n hx hb dL_law_709 rfl (lv_at hl 0 rfl) ?_
  refine lv_iload_n hx hb dL_law_710 rfl (lv_at hl 3 rfl) ?_
  refine lv_iconst (v := 3) hx hb dL_law_711 (by decide) ?_
  refine lv_iadd hx hb dL_law_712 ?_
  refine zt (ad3 i) ?_
  refine va_sld hx hb hXs hbl hbA hS (vp_in_nI (by omega) (by omega)) dL_law_713 ?_
  refine z_tc (f := xs) (nI_clamp (by omega)) ?_
  refine zcallL (As := [.int (xs (i + 1)), .int (xs (i + 2)), .int (xs (i + 3))]) (rest := []) ⟨hx, hb, hml, hown, hts⟩ (c_X8_year l D cI cB hX X (xs (i + 1)) (xs (i + 2)) (xs (i + 3)) r X2 f1) (cwV 3 hts (z_gV (fun w h => wG_in h) wd_618 wd_619 wd_620 wd_1 wd_621) rfl rfl rfl q_X8_year ⟨Nat.le_of_ble_eq_true rfl, Nat.le_of_ble_eq_true rfl⟩) hK hP hD hS hA 8 rfl rfl rfl rfl hl.1 (Nat.le_of_ble_eq_true rfl) dL_law_714 ⟨Nat.le_of_ble_eq_true rfl, Nat.le_of_ble_eq_true rfl⟩ rfl (fun H locs hP hD hS => ?_)
  refine lv_aload_n hx hb dL_law_717 rfl (lv_at hl 2 rfl) ?_
  refine lv_aload_n hx hb dL_law_718 rfl (lv_at hl 0 rfl) ?_
  refine lv_iload_n hx hb dL_law_719 rfl (lv_at hl 3 rfl) ?_
  refine lv_iconst (v := 1) hx hb dL_law_720 (by decide) ?_
  refine lv_iadd hx hb dL_law_721 ?_
  refine zt (ad1 i) ?_
  refine va_sld hx hb hXs hbl hbA hS (vp_in_nI (by omega) (by omega)) dL_law_722 ?_
  refine z_tc (f := xs) (nI_clamp (by omega)) ?_
  refine lv_aload_n hx hb dL_law_723 rfl (lv_at hl 0 rfl) ?_
  refine lv_iload_n hx hb dL_law_724 rfl (lv_at hl 3 rfl) ?_
  refine lv_iconst (v := 2) hx hb dL_law_725 (by decide) ?_
  refine lv_iadd hx hb dL_law_726 ?_
  refine zt (ad2 i) ?_
  refine va_sld hx hb hXs hbl hbA hS (vp_in_nI (by omega) (by omega)) dL_law_727 ?_
  refine z_tc (f := xs) (nI_clamp (by omega)) ?_
  refine lv_aload_n hx hb dL_law_728 rfl (lv_at hl 0 rfl) ?_
  refine lv_iload_n hx hb dL_law_729 rfl (lv_at hl 3 rfl) ?_
  refine lv_iconst (v := 3) hx hb dL_law_730 (by decide) ?_
  refine lv_iadd hx hb dL_law_731 ?_
  refine zt (ad3 i) ?_
  refine va_sld hx hb hXs hbl hbA hS (vp_in_nI (by omega) (by omega)) dL_law_732 ?_
  refine z_tc (f := xs) (nI_clamp (by omega)) ?_
  refine zcallL (As := [.int (xs (i + 1)), .int (xs (i + 2)), .int (xs (i + 3))]) (rest := [.int r]) ⟨hx, hb, hml, hown, hts⟩ (c_X9_year l D cI cB hM M (xs (i + 1)) (xs (i + 2)) (xs (i + 3)) r M2 f2) (cwV 3 hts (z_gV (fun w h => wG_in h) wd_910 wd_911 wd_912 wd_15 wd_913) rfl rfl rfl q_X9_year ⟨Nat.le_of_ble_eq_true rfl, Nat.le_of_ble_eq_true rfl⟩) hK hP hD hS hA 9 rfl rfl rfl rfl hl.1 (Nat.le_of_ble_eq_true rfl) dL_law_733 ⟨Nat.le_of_ble_eq_true rfl, Nat.le_of_ble_eq_true rfl⟩ rfl (fun H locs hP hD hS => ?_)
  refine lv_icmp_eq (tgt := 790) hx hb dL_law_736 (by decide) (fun _ => ?_) (fun c => absurd rfl c)
  exact kk hX X2 M2 hI2 _ _ _ hP hD hS hl
set_option maxHeartbeats 4000000 in
set_option maxRecDepth 100000 in
theorem law_keep {p : Program} {l : Launch} {e : Env} {s : State} {m : MethodId} {below : List Frame} {meth : Method} {c : Code} {b L : Nat} {xs : Nat → Int32} {A : Nat → Prop} {D : va_G} {cI cB : ClassId} (hL : L ≤ 2048) (C : zLC p s m c b L xs A D cI cB) {i : Nat} (hi : i + 4 ≤ L) {hX hM : Nat → Nat} {X M : zMm} (hI : Inv X M) (kk : ∀ (hX2 : Nat → Nat) (X2 M2 : zMm), Inv X2 M2 → zAtL p l e s m below meth c b A D cI cB hX2 hM X2 M2 i 790) : zAtL p l e s m below meth c b A D cI cB hX hM X M i 741 := by
  obtain ⟨hx, hb, hml, hown, hts, hXs, hbA, hbl, hK, hA⟩ := C
  intro H locs ls hP hD hS hl
  obtain ⟨r, X2, M2, f1, f2, hI2⟩ := q_keep hI
  refine lv_aload_n hx hb dL_law_741 rfl (lv_at hl 1 rfl) ?_
  refine zcallL (As := []) (rest := []) ⟨hx, hb, hml, hown, hts⟩ (c_X8_keep l D cI cB hX X r X2 f1) (cwV 0 hts (z_gV (fun w h => wG_in h) wd_626 wd_627 wd_628 wd_1 wd_629) rfl rfl rfl q_X8_keep ⟨Nat.le_of_ble_eq_true rfl, Nat.le_of_ble_eq_true rfl⟩) hK hP hD hS hA 8 rfl rfl rfl rfl hl.1 (Nat.le_of_ble_eq_true rfl) dL_law_742 ⟨Nat.le_of_ble_eq_true rfl, Nat.le_of_ble_eq_true rfl⟩ rfl (fun H locs hP hD hS => ?_)
  refine lv_aload_n hx hb dL_law_745 rfl (lv_at hl 2 rfl) ?_
  refine zcallL (As := []) (rest := [.int r]) ⟨hx, hb, hml, hown, hts⟩ (c_X9_keep l D cI cB hM M r M2 f2) (cwV 0 hts (z_gV (fun w h => wG_in h) wd_916 wd_917 wd_918 wd_15 wd_919) rfl rfl rfl q_X9_keep ⟨Nat.le_of_ble_eq_true rfl, Nat.le_of_ble_eq_true rfl⟩) hK hP hD hS hA 9 rfl rfl rfl rfl hl.1 (Nat.le_of_ble_eq_true rfl) dL_law_746 ⟨Nat.le_of_ble_eq_true rfl, Nat.le_of_ble_eq_true rfl⟩ rfl (fun H locs hP hD hS => ?_)
  refine lv_icmp_eq (tgt := 790) hx hb dL_law_749 (by decide) (fun _ => ?_) (fun c => absurd rfl c)
  exact kk hX X2 M2 hI2 _ _ _ hP hD hS hl
set_option maxHeartbeats 4000000 in
set_option maxRecDepth 100000 in
theorem law_back {p : Program} {l : Launch} {e : Env} {s : State} {m : MethodId} {below : List Frame} {meth : Method} {c : Code} {b L : Nat} {xs : Nat → Int32} {A : Nat → Prop} {D : va_G} {cI cB : ClassId} (hL : L ≤ 2048) (C : zLC p s m c b L xs A D cI cB) {i : Nat} (hi : i + 4 ≤ L) {hX hM : Nat → Nat} {X M : zMm} (hI : Inv X M) (kk : ∀ (hX2 : Nat → Nat) (X2 M2 : zMm), Inv X2 M2 → zAtL p l e s m below meth c b A D cI cB hX2 hM X2 M2 i 790) : zAtL p l e s m below meth c b A D cI cB hX hM X M i 754 := by
  obtain ⟨hx, hb, hml, hown, hts, hXs, hbA, hbl, hK, hA⟩ := C
  intro H locs ls hP hD hS hl
  obtain ⟨r, X2, M2, f1, f2, hI2⟩ := q_back hI
  refine lv_aload_n hx hb dL_law_754 rfl (lv_at hl 1 rfl) ?_
  refine zcallL (As := []) (rest := []) ⟨hx, hb, hml, hown, hts⟩ (c_X8_back l D cI cB hX X r X2 f1) (cwV 0 hts (z_gV (fun w h => wG_in h) wd_630 wd_631 wd_632 wd_1 wd_633) rfl rfl rfl q_X8_back ⟨Nat.le_of_ble_eq_true rfl, Nat.le_of_ble_eq_true rfl⟩) hK hP hD hS hA 8 rfl rfl rfl rfl hl.1 (Nat.le_of_ble_eq_true rfl) dL_law_755 ⟨Nat.le_of_ble_eq_true rfl, Nat.le_of_ble_eq_true rfl⟩ rfl (fun H locs hP hD hS => ?_)
  refine lv_aload_n hx hb dL_law_758 rfl (lv_at hl 2 rfl) ?_
  refine zcallL (As := []) (rest := [.int r]) ⟨hx, hb, hml, hown, hts⟩ (c_X9_back l D cI cB hM M r M2 f2) (cwV 0 hts (z_gV (fun w h => wG_in h) wd_920 wd_921 wd_922 wd_15 wd_923) rfl rfl rfl q_X9_back ⟨Nat.le_of_ble_eq_true rfl, Nat.le_of_ble_eq_true rfl⟩) hK hP hD hS hA 9 rfl rfl rfl rfl hl.1 (Nat.le_of_ble_eq_true rfl) dL_law_759 ⟨Nat.le_of_ble_eq_true rfl, Nat.le_of_ble_eq_true rfl⟩ rfl (fun H locs hP hD hS => ?_)
  refine lv_icmp_eq (tgt := 790) hx hb dL_law_762 (by decide) (fun _ => ?_) (fun c => absurd rfl c)
  exact kk hX X2 M2 hI2 _ _ _ hP hD hS hl
set_option maxHeartbeats 4000000 in
set_option maxRecDepth 100000 in
theorem law_count {p : Program} {l : Launch} {e : Env} {s : State} {m : MethodId} {below : List Frame} {meth : Method} {c : Code} {b L : Nat} {xs : Nat → Int32} {A : Nat → Prop} {D : va_G} {cI cB : ClassId} (hL : L ≤ 2048) (C : zLC p s m c b L xs A D cI cB) {i : Nat} (hi : i + 4 ≤ L) {hX hM : Nat → Nat} {X M : zMm} (hI : Inv X M) (kk : ∀ (hX2 : Nat → Nat) (X2 M2 : zMm), Inv X2 M2 → zAtL p l e s m below meth c b A D cI cB hX2 hM X2 M2 i 790) : zAtL p l e s m below meth c b A D cI cB hX hM X M i 767 := by
  obtain ⟨hx, hb, hml, hown, hts, hXs, hbA, hbl, hK, hA⟩ := C
  intro H locs ls hP hD hS hl
  obtain ⟨r, f1, f2⟩ := q_count hI (xs (i + 1))
  refine lv_aload_n hx hb dL_law_767 rfl (lv_at hl 1 rfl) ?_
  refine lv_aload_n hx hb dL_law_768 rfl (lv_at hl 0 rfl) ?_
  refine lv_iload_n hx hb dL_law_769 rfl (lv_at hl 3 rfl) ?_
  refine lv_iconst (v := 1) hx hb dL_law_770 (by decide) ?_
  refine lv_iadd hx hb dL_law_771 ?_
  refine zt (ad1 i) ?_
  refine va_sld hx hb hXs hbl hbA hS (vp_in_nI (by omega) (by omega)) dL_law_772 ?_
  refine z_tc (f := xs) (nI_clamp (by omega)) ?_
  refine zcallVi (As := [.int (xs (i + 1))]) (ws2 := w8 cI cB hX X ++ w9 cI cB hM M) (rest := []) ⟨hx, hb, hml, hown, hts⟩ (c_X8_count l D cI cB hX X (xs (i + 1)) r f1) (cwV 1 hts (z_gV (fun w h => wG_in h) wd_634 wd_635 wd_636 wd_1 wd_637) rfl rfl rfl q_X8_count ⟨Nat.le_of_ble_eq_true rfl, Nat.le_of_ble_eq_true rfl⟩) hK hP hD hS hA 8 rfl rfl rfl [0, 1, 7, 10, 13, 17, 31] [2, 3, 4, 5, 6, 8, 9, 11, 12, 14, 15, 16, 18, 19, 20, 21, 22, 23, 24, 25, 26, 27, 28, 29, 30, 32, 33, 34, 35, 36, 37, 38, 39, 40, 41, 42, 43, 44, 45, 46, 47, 48, 49, 50, 51, 52, 53, 54, 55, 56, 57, 58, 59, 60, 61, 62] rfl rfl rfl rfl rfl rfl rfl hl.1 (Nat.le_of_ble_eq_true rfl) dL_law_773 ⟨Nat.le_of_ble_eq_true rfl, Nat.le_of_ble_eq_true rfl⟩ rfl (fun H locs hP hD hS => ?_)
  refine lv_aload_n hx hb dL_law_776 rfl (lv_at hl 2 rfl) ?_
  refine lv_aload_n hx hb dL_law_777 rfl (lv_at hl 0 rfl) ?_
  refine lv_iload_n hx hb dL_law_778 rfl (lv_at hl 3 rfl) ?_
  refine lv_iconst (v := 1) hx hb dL_law_779 (by decide) ?_
  refine lv_iadd hx hb dL_law_780 ?_
  refine zt (ad1 i) ?_
  refine va_sld hx hb hXs hbl hbA hS (vp_in_nI (by omega) (by omega)) dL_law_781 ?_
  refine z_tc (f := xs) (nI_clamp (by omega)) ?_
  refine zcallVi (As := [.int (xs (i + 1))]) (ws2 := w8 cI cB hX X ++ w9 cI cB hM M) (rest := [.int r]) ⟨hx, hb, hml, hown, hts⟩ (c_X9_count l D cI cB hM M (xs (i + 1)) r f2) (cwV 1 hts (z_gV (fun w h => wG_in h) wd_924 wd_925 wd_926 wd_15 wd_927) rfl rfl rfl q_X9_count ⟨Nat.le_of_ble_eq_true rfl, Nat.le_of_ble_eq_true rfl⟩) hK hP hD hS hA 9 rfl rfl rfl [45, 48, 50, 52] [0, 1, 2, 3, 4, 5, 6, 7, 8, 9, 10, 11, 12, 13, 14, 15, 16, 17, 18, 19, 20, 21, 22, 23, 24, 25, 26, 27, 28, 29, 30, 31, 32, 33, 34, 35, 36, 37, 38, 39, 40, 41, 42, 43, 44, 46, 47, 49, 51, 53, 54, 55, 56, 57, 58, 59, 60, 61, 62] rfl rfl rfl rfl rfl rfl rfl hl.1 (Nat.le_of_ble_eq_true rfl) dL_law_782 ⟨Nat.le_of_ble_eq_true rfl, Nat.le_of_ble_eq_true rfl⟩ rfl (fun H locs hP hD hS => ?_)
  refine lv_icmp_eq (tgt := 790) hx hb dL_law_785 (by decide) (fun _ => ?_) (fun c => absurd rfl c)
  exact kk hX X M hI _ _ _ hP hD hS hl
