theorem iFt_c {pl : zN} (hw : iWF pl) {fx gx fm fx2 gx2 fm2 : Nat → Int32} (h : iFt pl fx gx fm) (e1 : ∀ k, k < 7 → fx2 k = fx k) (e2 : ∀ k, k < 7 → gx2 k = gx k) (e3 : ∀ k, k < 14 → fm2 k = fm k) : iFt pl fx2 gx2 fm2 := by
  obtain ⟨o, h1, h2, h3⟩ := h
  refine ⟨o, ⟨fun k hk => by rw [e1 k hk]; exact h1.1 k hk, h1.2⟩, fun i hi => ?_, fun k hk => ?_⟩
  · rw [ft_len hw e2 i hi]
    exact h2 i hi
  · rw [e3 k (by omega), e3 (7 + k) (by omega), e1 k hk, e2 k hk]
    exact h3 k hk
theorem zcp_out {f : Nat → Int32} {a b i : Nat} (h : i < 14 * b ∨ 14 * b + 14 ≤ i) : zcp f a b i = f i := zput_out _ _ h
theorem iUn_push {X M X2 M2 : zMm} {pl : zN} (hw : iWF pl) {dn nx : Nat} (h : iUn X M pl dn nx) (hf : iFt pl (X 3) (X 4) (M 10)) (e5 : X2 5 0 = X 5 0) (e6 : X2 6 = zput (X 6) (X 3) (7 * nx) 7) (e7 : X2 7 = zput (X 7) (X 4) (7 * nx) 7) (e8 : X2 8 0 = nI (min (dn + 1) 8)) (e9 : X2 9 0 = nI ((nx + 1) % 8)) (e12 : M2 12 0 = nI (min (dn + 1) 8)) (e10 : ∀ i, 42 ≤ i → M2 10 i = zkn (M 10) dn i) : iUn X2 M2 pl (min (dn + 1) 8) ((nx + 1) % 8) := by
  obtain ⟨h1, h2, h3, h4, h5, h6, h7⟩ := h
  have hm : min (dn + 1) 8 ≤ 8 := Nat.min_le_right _ _
  have hm2 : min (dn + 1) 8 = dn + 1 ∨ (min (dn + 1) 8 = 8 ∧ dn = 8) := by omega
  refine ⟨hm, Nat.mod_lt _ (by omega), by rw [e5]; exact h3, e8, e9, e12, fun d hd => ?_⟩
  rw [e6, e7]
  by_cases c : d = min (dn + 1) 8 - 1
  · have ep : ((nx + 1) % 8 + 8 - min (dn + 1) 8 + d) % 8 = nx := by omega
    rw [ep]
    refine iFt_c hw hf (fun k hk => zput_in _ _ hk) (fun k hk => zput_in _ _ hk) (fun k hk => ?_)
    rw [e10 _ (by omega), c]
    exact zkn_new h1 hk
  · have hd' : d + (dn + 1 - min (dn + 1) 8) < dn := by omega
    have ep : ((nx + 1) % 8 + 8 - min (dn + 1) 8 + d) % 8 = (nx + 8 - dn + (d + (dn + 1 - min (dn + 1) 8))) % 8 := by omega
    have en : (nx + 8 - dn + (d + (dn + 1 - min (dn + 1) 8))) % 8 ≠ nx := by omega
    rw [ep]
    refine iFt_c hw (h7 _ hd') (fun k hk => zput_out _ _ (by omega)) (fun k hk => zput_out _ _ (by omega)) (fun k hk => ?_)
    rw [e10 _ (by omega)]
    exact zkn_old h1 (by omega) hk
theorem iKp_same {X M X2 M2 : zMm} {pl : zN} (hw : iWF pl) {kn kx : Nat} (h : iKp X M pl kn kx) (e10 : X2 10 0 = X 10 0) (e11 : X2 11 = X 11) (e12 : X2 12 = X 12) (e13 : X2 13 0 = X 13 0) (e14 : X2 14 0 = X 14 0) (m11 : M2 11 0 = M 11 0) (m10 : ∀ i, 14 ≤ i → i < 42 → M2 10 i = M 10 i) : iKp X2 M2 pl kn kx := by
  obtain ⟨h1, h2, h3, h4, h5, h6, h7⟩ := h
  refine ⟨h1, h2, by rw [e10]; exact h3, by rw [e13]; exact h4, by rw [e14]; exact h5, by rw [m11]; exact h6, fun d hd => ?_⟩
  rw [e11, e12]
  exact iFt_c hw (h7 d hd) (fun k hk => rfl) (fun k hk => rfl) (fun k hk => m10 _ (by omega) (by omega))
theorem iUn_same {X M X2 M2 : zMm} {pl : zN} (hw : iWF pl) {dn nx : Nat} (h : iUn X M pl dn nx) (e5 : X2 5 0 = X 5 0) (e6 : X2 6 = X 6) (e7 : X2 7 = X 7) (e8 : X2 8 0 = X 8 0) (e9 : X2 9 0 = X 9 0) (m12 : M2 12 0 = M 12 0) (m10 : ∀ i, 42 ≤ i → M2 10 i = M 10 i) : iUn X2 M2 pl dn nx := by
  obtain ⟨h1, h2, h3, h4, h5, h6, h7⟩ := h
  refine ⟨h1, h2, by rw [e5]; exact h3, by rw [e8]; exact h4, by rw [e9]; exact h5, by rw [m12]; exact h6, fun d hd => ?_⟩
  rw [e6, e7]
  exact iFt_c hw (h7 d hd) (fun k hk => rfl) (fun k hk => rfl) (fun k hk => m10 _ (by omega))
/-! undo -/
theorem q_undo {X M : zMm} (h : Inv X M) : ∃ r X2 M2, f_X8_undo X = some (r, X2) ∧ f_X9_undo M = some (r, M2) ∧ Inv X2 M2 := by
  obtain ⟨pl, t, hw, hn, hpx, hpm, h5, hft, ⟨dn, nx, h7⟩, ⟨kn, kx, h8⟩, h9, h10, h11, h12⟩ := id h
  obtain ⟨u1, u2, u3, u4, u5, u6, u7⟩ := id h7
  unfold f_X8_undo f_X9_undo
  rw [u4, u6]
  by_cases c : dn = 0
  · rw [if_pos (by rw [c]; rfl), if_pos (by rw [c]; rfl)]
    exact ⟨_, _, _, rfl, rfl, h⟩
  · rw [if_neg (by rw [n_0, n_eq (by omega) (by omega)]; exact c), if_neg (by rw [n_0, n_eq (by omega) (by omega)]; exact c)]
    have eP := pop_a (P := fun j => X (5 + j)) (P1 := fun j => X (3 + j)) u2 u1 (by omega) u3 u4 u5
    have e12 : nI dn - 1 = nI (dn - 1) := by rw [n_1, pk_sub (by omega)]
    have eq12 : (zs M 12 (fun _ => nI (dn - 1))) 12 0 = nI (dn - 1) := rfl
    have e10 : (zs M 12 (fun _ => nI (dn - 1))) 10 = M 10 := rfl
    have ea : (3 : Int32) + nI (dn - 1) = nI (3 + (dn - 1)) := by rw [n_3, n_add]
    rw [pb2 eP, pv, pv, e12, eq12, ea, n_0, pb1 (cpM (by omega) (by omega) (by omega)), e10]
    have hp : (nx + 8 - dn + (dn - 1)) % 8 = (nx + 7) % 8 := by omega
    have hlast := u7 (dn - 1) (by omega)
    rw [hp] at hlast
    refine ⟨_, _, _, rfl, rfl, pl, t, hw, hn, hpx, hpm, h5, ?_, ⟨dn - 1, (nx + 7) % 8, by omega, Nat.mod_lt _ (by omega), u3, rfl, rfl, rfl, fun d hd => ?_⟩, ⟨kn, kx, ?_⟩, h9, h10, h11, h12⟩
    · refine iFt_c hw hlast (fun k hk => ?_) (fun k hk => ?_) (fun k hk => ?_)
      · have := zput_in (X 3) (fun j => X 6 (7 * ((nx + 7) % 8) + j)) (b := 0) hk
        rw [Nat.zero_add] at this
        exact this
      · have := zput_in (X 4) (fun j => X 7 (7 * ((nx + 7) % 8) + j)) (b := 0) hk
        rw [Nat.zero_add] at this
        exact this
      · have := zput_in (M 10) (fun k => M 10 (14 * (3 + (dn - 1)) + k)) (b := 14 * 0) hk
        rw [Nat.mul_zero, Nat.zero_add] at this
        exact this
    · have ep : ((nx + 7) % 8 + 8 - (dn - 1) + d) % 8 = (nx + 8 - dn + d) % 8 := by omega
      show iFt pl (fun k => X 6 (7 * (((nx + 7) % 8 + 8 - (dn - 1) + d) % 8) + k)) (fun k => X 7 (7 * (((nx + 7) % 8 + 8 - (dn - 1) + d) % 8) + k)) (fun k => zcp (M 10) (3 + (dn - 1)) 0 (14 * (3 + d) + k))
      rw [ep]
      exact iFt_c hw (u7 d (by omega)) (fun k hk => rfl) (fun k hk => rfl) (fun k hk => zput_out _ _ (by omega))
    · exact iKp_same hw h8 rfl rfl rfl rfl rfl rfl (fun i h1 h2 => show zcp (M 10) (3 + (dn - 1)) 0 i = M 10 i from zcp_out (by omega))
/-! keep, back -/
theorem q_keep {X M : zMm} (h : Inv X M) : ∃ r X2 M2, f_X8_keep X = some (r, X2) ∧ f_X9_keep M = some (r, M2) ∧ Inv X2 M2 := by
  obtain ⟨pl, t, hw, hn, hpx, hpm, h5, hft, ⟨dn, nx, h7⟩, ⟨kn, kx, h8⟩, h9, h10, h11, h12⟩ := id h
  obtain ⟨u1, u2, u3, u4, u5, u6, u7⟩ := id h8
  unfold f_X8_keep f_X9_keep
  rw [u4, u6]
  by_cases c : kn = 2
  · rw [if_neg (by rw [n_2, n_lt (by omega) (by omega)]; omega), if_pos (by rw [c]; rfl)]
    exact ⟨_, _, _, rfl, rfl, h⟩
  · rw [if_pos (by rw [n_2, n_lt (by omega) (by omega)]; omega), if_neg (by rw [n_2, n_eq (by omega) (by omega)]; exact c)]
    have eP := push_b (P := fun j => X (10 + j)) (P1 := fun j => X (3 + j)) u2 u1 u3 u4 u5
    have e11 : nI kn + 1 = nI (kn + 1) := by rw [n_1, n_add]
    have eq11 : (zs M 11 (fun _ => nI (kn + 1))) 11 0 = nI (kn + 1) := rfl
    have e10 : (zs M 11 (fun _ => nI (kn + 1))) 10 = M 10 := rfl
    have em : min (kn + 1) 2 = kn + 1 := by omega
    rw [em] at eP
    rw [pb1 eP, pv, pv, e11, eq11, n_0, pb1 (cpM (by omega) (by omega) (by omega)), e10]
    refine ⟨_, _, _, rfl, rfl, pl, t, hw, hn, hpx, hpm, h5, ?_, ⟨dn, nx, ?_⟩, ⟨kn + 1, (kx + 1) % 2, by omega, Nat.mod_lt _ (by omega), u3, rfl, rfl, rfl, fun d hd => ?_⟩, h9, h10, h11, h12⟩
    · exact iFt_c hw hft (fun k hk => rfl) (fun k hk => rfl) (fun k hk => show zcp (M 10) 0 (kn + 1) k = M 10 k from zcp_out (by omega))
    · exact iUn_same hw h7 rfl rfl rfl rfl rfl rfl (fun i h1 => show zcp (M 10) 0 (kn + 1) i = M 10 i from zcp_out (by omega))
    · show iFt pl (fun k => zput (X 11) (X 3) (7 * kx) 7 (7 * (((kx + 1) % 2 + 2 - (kn + 1) + d) % 2) + k)) (fun k => zput (X 12) (X 4) (7 * kx) 7 (7 * (((kx + 1) % 2 + 2 - (kn + 1) + d) % 2) + k)) (fun k => zcp (M 10) 0 (kn + 1) (14 * (1 + d) + k))
      by_cases cd : d = kn
      · have ep : ((kx + 1) % 2 + 2 - (kn + 1) + d) % 2 = kx := by omega
        rw [ep]
        refine iFt_c hw hft (fun k hk => zput_in _ _ hk) (fun k hk => zput_in _ _ hk) (fun k hk => ?_)
        have := zput_in (M 10) (fun k => M 10 (14 * 0 + k)) (b := 14 * (kn + 1)) hk
        rw [Nat.mul_zero, Nat.zero_add] at this
        rw [cd, show 1 + kn = kn + 1 by omega]
        exact this
      · have ep : ((kx + 1) % 2 + 2 - (kn + 1) + d) % 2 = (kx + 2 - kn + d) % 2 := by omega
        have en : (kx + 2 - kn + d) % 2 ≠ kx := by omega
        rw [ep]
        exact iFt_c hw (u7 d (by omega)) (fun k hk => zput_out _ _ (by omega)) (fun k hk => zput_out _ _ (by omega)) (fun k hk => zput_out _ _ (by omega))
theorem q_back {X M : zMm} (h : Inv X M) : ∃ r X2 M2, f_X8_back X = some (r, X2) ∧ f_X9_back M = some (r, M2) ∧ Inv X2 M2 := by
  obtain ⟨pl, t, hw, hn, hpx, hpm, h5, hft, ⟨dn, nx, h7⟩, ⟨kn, kx, h8⟩, h9, h10, h11, h12⟩ := id h
  obtain ⟨u1, u2, u3, u4, u5, u6, u7⟩ := id h8
  obtain ⟨v1, v2, v3, v4, v5, v6, v7⟩ := id h7
  unfold f_X8_back f_X9_back
  rw [u4, u6]
  by_cases c : kn = 0
  · rw [if_pos (by rw [c]; rfl), if_pos (by rw [c]; rfl)]
    exact ⟨_, _, _, rfl, rfl, h⟩
  · rw [if_neg (by rw [n_0, n_eq (by omega) (by omega)]; exact c), if_neg (by rw [n_0, n_eq (by omega) (by omega)]; exact c)]
    have eP := pop_b (P := fun j => X (10 + j)) (P1 := fun j => X (3 + j)) u2 u1 (by omega) u3 u4 u5
    have e11 : ∀ g, (zs M 10 g) 11 0 - 1 = nI (kn - 1) := fun g => by show M 11 0 - 1 = _; rw [u6, n_1, pk_sub (by omega)]
    rw [pb2 eP, pv, n_0, pb1 (cpM (by omega) (by omega) (by omega)), pv, pv, e11]
    have hp : (kx + 2 - kn + (kn - 1)) % 2 = (kx + 1) % 2 := by omega
    have hlast := u7 (kn - 1) (by omega)
    rw [hp, show 1 + (kn - 1) = kn by omega] at hlast
    unfold f_X2a_clear
    rw [pv, pb1 rfl, pv]
    refine ⟨_, _, _, rfl, rfl, pl, t, hw, hn, hpx, hpm, h5, ?_, ⟨0, nx, by omega, v2, v3, rfl, v5, rfl, fun d hd => absurd hd (Nat.not_lt_zero _)⟩, ⟨kn - 1, (kx + 1) % 2, by omega, Nat.mod_lt _ (by omega), u3, rfl, rfl, rfl, fun d hd => ?_⟩, h9, h10, h11, h12⟩
    · refine iFt_c hw hlast (fun k hk => ?_) (fun k hk => ?_) (fun k hk => ?_)
      · have := zput_in (X 3) (fun j => X 11 (7 * ((kx + 1) % 2) + j)) (b := 0) hk
        rw [Nat.zero_add] at this
        exact this
      · have := zput_in (X 4) (fun j => X 12 (7 * ((kx + 1) % 2) + j)) (b := 0) hk
        rw [Nat.zero_add] at this
        exact this
      · have := zput_in (M 10) (fun k => M 10 (14 * kn + k)) (b := 14 * 0) hk
        rw [Nat.mul_zero, Nat.zero_add] at this
        exact this
    · have ep : ((kx + 1) % 2 + 2 - (kn - 1) + d) % 2 = (kx + 2 - kn + d) % 2 := by omega
      show iFt pl (fun k => X 11 (7 * (((kx + 1) % 2 + 2 - (kn - 1) + d) % 2) + k)) (fun k => X 12 (7 * (((kx + 1) % 2 + 2 - (kn - 1) + d) % 2) + k)) (fun k => zcp (M 10) kn 0 (14 * (1 + d) + k))
      rw [ep]
      exact iFt_c hw (u7 d (by omega)) (fun k hk => rfl) (fun k hk => rfl) (fun k hk => zput_out _ _ (by omega))
