theorem fr0 {X M : zMm} : (∀ j, uX j = true → X j = X j) ∧ (∀ j, uM j = true → M j = M j) := ⟨fun _ _ => rfl, fun _ _ => rfl⟩
theorem ordM {pl : zN} {fx gx fm : Nat → Int32} {o : Nat → Nat} (hox : iOrd fx o) (hfm : ∀ k, k < 7 → fm k = fx k ∧ fm (7 + k) = gx k) : iOrd fm o := ⟨fun k hk => ⟨(hfm k hk).1.trans (hox.1 k hk).1, (hox.1 k hk).2⟩, hox.2⟩
/-! count -/
theorem q_count {X M : zMm} (h : Inv X M) (a : Int32) : ∃ r, f_X8_count X a = some r ∧ f_X9_count M a = some r := by
  obtain ⟨pl, t, hw, hn, hpx, hpm, h5, hft, ⟨dn, nx, h7⟩, ⟨kn, kx, h8⟩, ⟨sn, h9⟩, ⟨pn, ps, h10⟩, h11, h12⟩ := id h
  have e0 : X 41 0 = M 4 0 := hpx.1.1.trans hpm.1.1.symm
  have e1 : X 42 0 = M 6 0 := hpx.1.2.1.trans hpm.1.2.1.symm
  have e2 : X 43 0 = M 8 0 := hpx.1.2.2.1.trans hpm.1.2.2.1.symm
  have e3 : X 18 0 = M 13 0 := h9.2.1.trans h9.2.2.1.symm
  have e4 : X 21 0 = M 15 0 := h10.2.1.trans h10.2.2.1.symm
  have e5 : X 8 0 = M 12 0 := h7.2.2.2.1.trans h7.2.2.2.2.2.1.symm
  have e6 : X 13 0 = M 11 0 := h8.2.2.2.1.trans h8.2.2.2.2.2.1.symm
  have e7 : X 2 0 = M 0 0 := h5.2.1.trans h5.2.2.1.symm
  unfold f_X8_count f_X9_count
  rw [e0, e1, e2, e3, e4, e5, e6, e7]
  by_cases c0 : a = 0
  · exact ⟨_, if_pos c0, if_pos c0⟩
  rw [if_neg c0]
  by_cases c0 : a = 1
  · exact ⟨_, if_pos c0, if_pos c0⟩
  rw [if_neg c0]
  by_cases c0 : a = 2
  · exact ⟨_, if_pos c0, if_pos c0⟩
  rw [if_neg c0]
  by_cases c0 : a = 3
  · exact ⟨_, if_pos c0, if_pos c0⟩
  rw [if_neg c0]
  by_cases c0 : a = 4
  · exact ⟨_, if_pos c0, if_pos c0⟩
  rw [if_neg c0]
  by_cases c0 : a = 5
  · exact ⟨_, if_pos c0, if_pos c0⟩
  rw [if_neg c0]
  by_cases c0 : a = 6
  · exact ⟨_, if_pos c0, if_pos c0⟩
  rw [if_neg c0]
  by_cases c0 : a = 7
  · exact ⟨_, if_pos c0, if_pos c0⟩
  rw [if_neg c0]
  exact ⟨_, rfl, rfl⟩
/-! wipe, forget, noPins -/
theorem q_wipe {X M : zMm} (h : Inv X M) : ∃ r X2 M2, f_X8_wipe X = some (r, X2) ∧ f_X9_wipe M = some (r, M2) ∧ Inv X2 M2 := by
  obtain ⟨pl, t, hw, hn, hpx, hpm, h5, hft, h7, h8, h9, h10, h11, h12⟩ := id h
  refine ⟨X 2 0, zs X 2 (fun _ => 0), zs M 0 (fun _ => 0), rfl, ?_, pl, 0, hw, hn, hpx, hpm, ⟨by omega, rfl, rfl, fun i hi => absurd hi (Nat.not_lt_zero _)⟩, hft, h7, h8, h9, h10, h11, h12⟩
  exact sw (h5.2.2.1.trans h5.2.1.symm)
theorem q_forget {X M : zMm} (h : Inv X M) : ∃ r X2 M2, f_X8_forget X = some (r, X2) ∧ f_X9_forget M = some (r, M2) ∧ Inv X2 M2 := by
  obtain ⟨pl, t, hw, hn, hpx, hpm, h5, hft, h7, h8, ⟨sn, h9⟩, h10, h11, h12⟩ := id h
  refine ⟨X 18 0, zs X 18 (fun _ => 0), zs M 13 (fun _ => 0), rfl, ?_, pl, t, hw, hn, hpx, hpm, h5, hft, h7, h8, ⟨0, by omega, rfl, rfl, fun i hi => absurd hi (Nat.not_lt_zero _)⟩, h10, h11, h12⟩
  exact sw (h9.2.2.1.trans h9.2.1.symm)
theorem q_noPins {X M : zMm} (h : Inv X M) : ∃ r X2 M2, f_X8_noPins X = some (r, X2) ∧ f_X9_noPins M = some (r, M2) ∧ Inv X2 M2 := by
  obtain ⟨pl, t, hw, hn, hpx, hpm, h5, hft, h7, h8, h9, ⟨pn, ps, h10⟩, h11, h12⟩ := id h
  refine ⟨X 21 0, zs X 21 (fun _ => 0), zs M 15 (fun _ => 0), rfl, ?_, pl, t, hw, hn, hpx, hpm, h5, hft, h7, h8, h9, ⟨0, ps, by omega, rfl, rfl, fun i hi => absurd hi (Nat.not_lt_zero _)⟩, h11, h12⟩
  exact sw (h10.2.2.1.trans h10.2.1.symm)
/-! part -/
theorem q_part {X M : zMm} (h : Inv X M) (a b : Int32) : ∃ r, f_X8_part X a b = some r ∧ f_X9_part M a b = some r := by
  obtain ⟨pl, t, hw, hn, hpx, hpm, h5, ⟨o, hox, hlen, hfm⟩, h7, h8, h9, h10, h11, h12⟩ := id h
  have hb := hw.1
  have hom : iOrd (M 10) o := ordM (pl := pl) hox hfm
  unfold f_X8_part f_X9_part
  rcases ix a (n := pl 7 0) (by omega) with ⟨i, hi, rfl⟩ | hi
  · rw [pb1 (hasPartX hpx hw hi), if_neg i10, pb1 (isPartM hpm hw hi), if_neg i10]
    obtain ⟨x1, x2, x3⟩ := hpx.2.2.1 i hi
    obtain ⟨m1, m2, m3⟩ := hpm.2.2.1 i hi
    rcases ix b (n := 7) (by omega) with ⟨j, hj, rfl⟩ | hj
    · rw [pb1 (in_y (tL _) (lo := 0) (hi := 6) rfl rfl (by rw [nT (by omega)]; omega) (by rw [nT (by omega)]; omega)), if_neg i10]
      rcases (show j = 0 ∨ j = 1 ∨ j = 2 ∨ j = 3 ∨ j = 4 ∨ j = 5 ∨ j = 6 by omega) with rfl | rfl | rfl | rfl | rfl | rfl | rfl
      · rw [if_pos (by decide), if_neg (by decide), if_neg (by decide), if_neg (by decide), if_neg (by decide), pl_k rfl (by omega) (by omega), pl_k (k := 3 * i) (by rw [n_3, n_mul, n_add]; rfl) (by omega) (by omega)]
        exact ⟨_, rfl, congrArg some (m1.trans x1.symm)⟩
      · rw [if_neg (by decide), if_pos (by decide), if_neg (by decide), if_neg (by decide), if_neg (by decide), if_neg (by decide), pl_k rfl (by omega) (by omega), pl_k (k := 3 * i + 1) (by rw [n_3, n_mul, n_add]) (by omega) (by omega)]
        exact ⟨_, rfl, congrArg some (m2.trans x2.symm)⟩
      · rw [if_neg (by decide), if_neg (by decide), if_pos (by decide), if_neg (by decide), if_neg (by decide), if_neg (by decide), if_neg (by decide), pl_k rfl (by omega) (by omega), pl_k (k := 3 * i + 2) (by rw [n_3, n_mul, n_add]) (by omega) (by omega)]
        exact ⟨_, rfl, congrArg some (m3.trans x3.symm)⟩
      · rw [if_neg (by decide), if_neg (by decide), if_neg (by decide), if_pos (by decide), if_pos (by decide), pb1 (placeX (P := fun j => X (3 + j)) hox (by omega)), pb1 (placeM hom (by omega))]
        exact ⟨_, rfl, rfl⟩
      · rw [if_neg (by decide), if_neg (by decide), if_neg (by decide), if_neg (by decide), if_pos (by decide), if_neg (by decide), if_pos (by decide), pb1 (slipNowX hpx hw hox hi), pb1 (slipNowM hpm hw hom hi)]
        exact ⟨_, rfl, rfl⟩
      · rw [if_neg (by decide), if_neg (by decide), if_neg (by decide), if_neg (by decide), if_neg (by decide), if_pos (by decide), if_neg (by decide), if_neg (by decide), if_pos (by decide), pb1 (slipNowX hpx hw hox hi), pb1 (slipNowM hpm hw hom hi), pb1 (cutX hpx hw hi _), pb1 (cutM hpm hw hi _)]
        exact ⟨_, rfl, rfl⟩
      · rw [if_neg (by decide), if_neg (by decide), if_neg (by decide), if_neg (by decide), if_neg (by decide), if_neg (by decide), if_pos (by decide), if_neg (by decide), if_neg (by decide), if_neg (by decide), if_pos (by decide), pb1 (lenNowX hpx hw hox hi), pb1 (slipNowM hpm hw hom hi), pb1 (cutM hpm hw hi _), pl_k (k := 7 + i) (by rw [n_7, n_add]) (by omega) (by omega)]
        refine ⟨_, rfl, congrArg some ?_⟩
        unfold zLEN
        rw [(hfm i (by omega)).2]
    · have hnj := not_in hj
      have ne : ∀ k, k < 7 → ¬ b = nI k := fun k hk e => by
        have : b.toInt = k := by rw [e, nT (by omega)]
        omega
      rw [if_neg (show ¬ b = 0 from ne 0 (by omega)), if_neg (show ¬ b = 1 from ne 1 (by omega)), if_neg (show ¬ b = 2 from ne 2 (by omega)), if_neg (show ¬ b = 3 from ne 3 (by omega)), if_neg (show ¬ b = 4 from ne 4 (by omega)), if_neg (show ¬ b = 5 from ne 5 (by omega)), if_neg (show ¬ b = 6 from ne 6 (by omega)), pb1 (in_n (tL _) (lo := 0) (hi := 6) rfl rfl (by omega)), if_pos rfl]
      exact ⟨_, rfl, rfl⟩
  · rw [pb1 (hasPartX_no hpx hw hi), if_pos rfl, pb1 (isPartM_no hpm hw hi), if_pos rfl]
    exact ⟨_, rfl, rfl⟩
/-! added -/
def zAD (c : Int32 → Int32) (v : Int32) : Nat → Nat → Int32
  | 0, _ => -4
  | m + 1, k => if c (-nI k) = v then 100 - nI k else if c (nI k) = v then 100 + nI k else zAD c v m (k + 1)
theorem adX_loop {X : zMm} {pl : zN} (hp : iPlX (fun j => X (35 + j)) pl) (hw : iWF pl) {i : Nat} (hi : i < pl 7 0) (v : Int32) : ∀ m k n, k + m = 10 → m < n → L_X8_added_22 X (nI i) v n (nI k) = some (zAD (zcut pl i) v m k) := by
  intro m
  induction m with
  | zero =>
    intro k n hk hn
    obtain ⟨n, rfl⟩ : ∃ n', n = n' + 1 := ⟨n - 1, by omega⟩
    rw [L_X8_added_22, if_pos (by rw [n_9, n_lt (by omega) (by omega)]; omega)]
    rfl
  | succ m ih =>
    intro k n hk hn
    obtain ⟨n, rfl⟩ : ∃ n', n = n' + 1 := ⟨n - 1, by omega⟩
    rw [L_X8_added_22, if_neg (by rw [n_9, n_lt (by omega) (by omega)]; omega), pb1 (cutX hp hw hi _), zAD]
    by_cases c : zcut pl i (-nI k) = v
    · rw [if_pos c, if_pos c]
    · rw [if_neg c, if_neg c, pb1 (cutX hp hw hi _)]
      by_cases c : zcut pl i (nI k) = v
      · rw [if_pos c, if_pos c]
      · rw [if_neg c, if_neg c, pv, n_1, n_add]
        exact ih (k + 1) n (by omega) (by omega)
theorem adM_loop {M : zMm} {pl : zN} (hp : iPlM M pl) (hw : iWF pl) {i : Nat} (hi : i < pl 7 0) (v : Int32) : ∀ m k n, k + m = 10 → m < n → L_X9_added_24 M (nI i) v n (nI k) = some (zAD (zcut pl i) v m k) := by
  intro m
  induction m with
  | zero =>
    intro k n hk hn
    obtain ⟨n, rfl⟩ : ∃ n', n = n' + 1 := ⟨n - 1, by omega⟩
    rw [L_X9_added_24, if_pos (by rw [n_10, n_le (by omega) (by omega)]; omega)]
    rfl
  | succ m ih =>
    intro k n hk hn
    obtain ⟨n, rfl⟩ : ∃ n', n = n' + 1 := ⟨n - 1, by omega⟩
    rw [L_X9_added_24, if_neg (by rw [n_10, n_le (by omega) (by omega)]; omega), pb1 (cutM hp hw hi _), zAD]
    by_cases c : zcut pl i (-nI k) = v
    · rw [if_pos c, if_pos c]
    · rw [if_neg c, if_neg c, pb1 (cutM hp hw hi _)]
      by_cases c : zcut pl i (nI k) = v
      · rw [if_pos c, if_pos c]
      · rw [if_neg c, if_neg c, pv, n_1, n_add]
        exact ih (k + 1) n (by omega) (by omega)
theorem lenY {v : Int32} (h1 : 1 ≤ v.toInt) (h2 : v.toInt ≤ 299) : f_X8_isLength v = some 1 := by
  unfold f_X8_isLength
  have e1 : (1 : Int32).toInt = 1 := rfl
  have e2 : (299 : Int32).toInt = 299 := rfl
  rw [if_neg (by rw [ltT]; omega), if_neg (by rw [ltT]; omega)]
theorem lenN {v : Int32} (h : v.toInt < 1 ∨ 299 < v.toInt) : f_X8_isLength v = some 0 := by
  unfold f_X8_isLength
  have e1 : (1 : Int32).toInt = 1 := rfl
  have e2 : (299 : Int32).toInt = 299 := rfl
  by_cases c : v < 1
  · rw [if_pos c]
  · rw [if_neg c, if_pos (by rw [ltT]; rw [ltT] at c; omega)]
theorem q_added {X M : zMm} (h : Inv X M) (a b : Int32) : ∃ r, f_X8_added X a b = some r ∧ f_X9_added M a b = some r := by
  obtain ⟨pl, t, hw, hn, hpx, hpm, h5, hft, h7, h8, h9, h10, h11, h12⟩ := id h
  have hb := hw.1
  unfold f_X8_added f_X9_added
  rcases ix a (n := pl 7 0) (by omega) with ⟨i, hi, rfl⟩ | hi
  · rw [pb1 (hasPartX hpx hw hi), if_neg i10, pb1 (isPartM hpm hw hi), if_neg i10]
    by_cases c : 1 ≤ b.toInt ∧ b.toInt ≤ 299
    · rw [pb1 (lenY c.1 c.2), if_neg i10, pb1 (in_y (tL _) (lo := 1) (hi := 299) rfl rfl c.1 c.2), if_neg i10]
      exact ⟨_, adX_loop hpx hw hi b 10 0 100000 rfl (by omega), adM_loop hpm hw hi b 10 0 100000 rfl (by omega)⟩
    · rw [pb1 (lenN (by omega)), if_pos rfl, pb1 (in_n (tL _) (lo := 1) (hi := 299) rfl rfl (by omega)), if_pos rfl]
      exact ⟨_, rfl, rfl⟩
  · rw [pb1 (hasPartX_no hpx hw hi), if_pos rfl, pb1 (isPartM_no hpm hw hi), if_pos rfl]
    exact ⟨_, rfl, rfl⟩
/-! seen -/
theorem q_seen {X M : zMm} (h : Inv X M) (a b c : Int32) : ∃ r X2 M2, f_X8_seen X a b c = some (r, X2) ∧ f_X9_seen M a b c = some (r, M2) ∧ Inv X2 M2 := by
  obtain ⟨pl, t, hw, hn, hpx, hpm, h5, hft, h7, h8, ⟨sn, s1, s2, s3, s4⟩, h10, h11, h12⟩ := id h
  have hb := hw.1
  have e10 : (10 : Int32).toInt = 10 := rfl
  have e199 : (199 : Int32).toInt = 199 := rfl
  unfold f_X8_seen f_X9_seen
  rcases ix a (n := pl 6 0) (by omega) with ⟨i, hi, rfl⟩ | hi
  · rw [pb1 (hasTailorX hpx hw hi), if_neg i10, pb1 (isTailorM hpm hw hi), if_neg i10]
    by_cases c1 : 10 ≤ b.toInt ∧ b.toInt ≤ 199
    · rw [if_neg (by rw [ltT]; omega), if_neg (by rw [ltT]; omega), pb1 (in_y (tL _) (lo := 10) (hi := 199) rfl rfl c1.1 c1.2), if_neg i10]
      by_cases c2 : 1 ≤ c.toInt ∧ c.toInt ≤ 299
      · rw [pb1 (lenY c2.1 c2.2), if_neg i10, pb1 (in_y (tL _) (lo := 1) (hi := 299) rfl rfl c2.1 c2.2), if_neg i10, s2, s3]
        by_cases c3 : sn = 10
        · rw [if_neg (by rw [n_10, n_lt (by omega) (by omega)]; omega), if_pos (by rw [c3]; rfl)]
          exact ⟨_, _, _, rfl, rfl, h⟩
        · rw [if_pos (by rw [n_10, n_lt (by omega) (by omega)]; omega), if_neg (by rw [n_10, n_eq (by omega) (by omega)]; exact c3)]
          have eX : f_X6_add (fun j => X (15 + j)) (nI i) b c = some (zs (zs (zs (zs (fun j => X (15 + j)) 0 (upd (X 15) sn (nI i))) 1 (upd (X 16) sn b)) 2 (upd (X 17) sn c)) 3 (fun _ => X 18 0 + 1)) := by
            have s2' : (fun j => X (15 + j)) 3 0 = nI sn := s2
            unfold f_X6_add
            rw [s2', if_neg (by rw [n_10, n_le (by omega) (by omega)]; omega), pw_k rfl (by omega) (by omega), pw_k (k := sn) (by exact s2) (by omega) (by omega), pw_k (k := sn) (by exact s2) (by omega) (by omega), pv]
            rfl
          rw [pb1 eX, pv]
          have eM : ∀ K : zMm → Option (Int32 × zMm), (zw 30 M 14 ((3 : Int32) * nI sn) (nI i) (fun M_11 => zw 30 M_11 14 (((3 : Int32) * (M_11 13 0)) + 1) b (fun M_12 => zw 30 M_12 14 (((3 : Int32) * (M_12 13 0)) + 2) c K))) = K (zs M 14 (upd (upd (upd (M 14) (3 * sn) (nI i)) (3 * sn + 1) b) (3 * sn + 2) c)) := by
            intro K
            have s3' : ∀ g, (zs M 14 g) 13 0 = nI sn := fun g => s3
            rw [pw_k (k := 3 * sn) (by rw [n_3, n_mul]) (by omega) (by omega), s3', pw_k (k := 3 * sn + 1) (by rw [n_3, n_mul, n_1, n_add]) (by omega) (by omega), zs_zs, zs_s, s3', pw_k (k := 3 * sn + 2) (by rw [n_3, n_mul, n_2, n_add]) (by omega) (by omega), zs_zs, zs_s]
          rw [eM, pv]
          refine ⟨_, _, _, rfl, sw (by show M 13 0 + 1 = X 18 0 + 1; rw [s3, s2]), pl, t, hw, hn, hpx, hpm, h5, hft, h7, h8, ⟨sn + 1, by omega, ?_, ?_, ?_⟩, h10, h11, h12⟩
          · show X 18 0 + 1 = nI (sn + 1)
            rw [s2, n_1, n_add]
          · show M 13 0 + 1 = nI (sn + 1)
            rw [s3, n_1, n_add]
          · intro k hk
            show upd (X 15) sn (nI i) k = upd (upd (upd (M 14) (3 * sn) (nI i)) (3 * sn + 1) b) (3 * sn + 2) c (3 * k) ∧ upd (X 16) sn b k = upd (upd (upd (M 14) (3 * sn) (nI i)) (3 * sn + 1) b) (3 * sn + 2) c (3 * k + 1) ∧ upd (X 17) sn c k = upd (upd (upd (M 14) (3 * sn) (nI i)) (3 * sn + 1) b) (3 * sn + 2) c (3 * k + 2)
            by_cases hks : k = sn
            · subst hks
              rw [up_s, up_s, up_s, up_s, up_n _ _ (by omega : 3 * k ≠ 3 * k + 2), up_n _ _ (by omega : 3 * k ≠ 3 * k + 1), up_s, up_n _ _ (by omega : 3 * k + 1 ≠ 3 * k + 2), up_s]
              exact ⟨rfl, rfl, rfl⟩
            · rw [up_n _ _ hks, up_n _ _ hks, up_n _ _ hks, up_n _ _ (by omega), up_n _ _ (by omega), up_n _ _ (by omega), up_n _ _ (by omega), up_n _ _ (by omega), up_n _ _ (by omega), up_n _ _ (by omega), up_n _ _ (by omega), up_n _ _ (by omega)]
              exact s4 k (by omega)
      · rw [pb1 (lenN (by omega)), if_pos rfl, pb1 (in_n (tL _) (lo := 1) (hi := 299) rfl rfl (by omega)), if_pos rfl]
        exact ⟨_, _, _, rfl, rfl, h⟩
    · rw [pb1 (in_n (tL _) (lo := 10) (hi := 199) rfl rfl (by omega)), if_pos rfl]
      by_cases c2 : b < 10
      · rw [if_pos c2]
        exact ⟨_, _, _, rfl, rfl, h⟩
      · rw [if_neg c2, if_pos (by rw [ltT]; rw [ltT] at c2; omega)]
        exact ⟨_, _, _, rfl, rfl, h⟩
  · rw [pb1 (hasTailorX_no hpx hw hi), if_pos rfl, pb1 (isTailorM_no hpm hw hi), if_pos rfl]
    exact ⟨_, _, _, rfl, rfl, h⟩
