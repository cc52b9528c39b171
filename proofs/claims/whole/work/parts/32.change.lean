def zCN (pl : zN) (i : Nat) (s : Int) : Nat := ((pl 2 i : Int) + s).toNat * pl 0 (pl 1 i) / 100
theorem zcut_n {pl : zN} (hw : iWF pl) {i : Nat} (hi : i < pl 7 0) {s : Int} (h : -9 ≤ s ∧ s ≤ 9) : zcut pl i (iI s) = nI (zCN pl i s) := by
  obtain ⟨w1, w2, w3, -⟩ := hw.2.2.1 i hi
  have w4 := hw.2.1 _ w1
  have e : nI (pl 2 i) + iI s = nI ((pl 2 i : Int) + s).toNat := by
    rw [← iI_n, ← iI_n, iI_add]
    congr 1
    omega
  have hm : ((pl 2 i : Int) + s).toNat * pl 0 (pl 1 i) ≤ 208 * 120 := Nat.mul_le_mul (by omega) (by omega)
  unfold zcut zCN
  rw [e, n_mul, n_100, pk_div (by omega) (by omega) (by omega)]
theorem zCN_b {pl : zN} (hw : iWF pl) {i : Nat} (hi : i < pl 7 0) {s : Int} (h : -5 ≤ s ∧ s ≤ 5) : 1 ≤ zCN pl i s ∧ zCN pl i s ≤ 299 := by
  obtain ⟨w1, w2, w3, -⟩ := hw.2.2.1 i hi
  have w4 := hw.2.1 _ w1
  have hm : ((pl 2 i : Int) + s).toNat * pl 0 (pl 1 i) ≤ 204 * 120 := Nat.mul_le_mul (by omega) (by omega)
  have hm2 : 5 * 80 ≤ ((pl 2 i : Int) + s).toNat * pl 0 (pl 1 i) := Nat.mul_le_mul (by omega) (by omega)
  unfold zCN
  omega
theorem len0 {pl : zN} (hw : iWF pl) (o : Nat → Nat) {lg : Nat → Int32} (h : ∀ k, k < 7 → lg k = 0) : iLen pl o lg := by
  intro i hi
  have hb := hw.1
  have hs := zSL_b i (zpos o i) (pl 10 0)
  have := zCN_b hw hi hs
  unfold zLEN
  rw [h i (by omega), Int32.add_zero, zcut_n hw hi (by omega), nT (by omega)]
  omega
theorem swX_loop {P : zMm} (l1 l2 l3 : Int32) : ∀ m k n, k + m = 7 → m < n → L_X1_swapPlaces_29 l1 l2 l3 n (nI k) (zs P 1 (zput (P 1) (fun _ => 0) 0 k)) = some (nI 7, zs P 1 (zput (P 1) (fun _ => 0) 0 7)) := by
  intro m
  induction m with
  | zero =>
    intro k n hk hn
    obtain ⟨n, rfl⟩ : ∃ n', n = n' + 1 := ⟨n - 1, by omega⟩
    rw [L_X1_swapPlaces_29, if_pos (by rw [n_7, n_le (by omega) (by omega)]; omega), show k = 7 by omega]
  | succ m ih =>
    intro k n hk hn
    obtain ⟨n, rfl⟩ : ∃ n', n = n' + 1 := ⟨n - 1, by omega⟩
    have s1 := zput_s (P 1) (fun _ => 0) 0 k
    rw [Nat.zero_add] at s1
    rw [L_X1_swapPlaces_29, if_neg (by rw [n_7, n_le (by omega) (by omega)]; omega), pw_k rfl (by omega) (by omega), zs_s, zs_zs, s1, pv, n_1, n_add]
    exact ih (k + 1) n (by omega) (by omega)
theorem swX {P : zMm} {a b : Nat} (ha : a < 7) (hb : b < 7) : f_X1_swapPlaces P (nI a) (nI b) = some (zs (zs P 0 (upd (upd (P 0) a (P 0 b)) b (P 0 a))) 1 (zput (P 1) (fun _ => 0) 0 7)) := by
  unfold f_X1_swapPlaces
  have e := swX_loop (P := zs P 0 (upd (upd (P 0) a (P 0 b)) b (P 0 a))) (nI a) (nI b) (P 0 a) 7 0 100000 (by omega) (by omega)
  rw [zput_0, zs_self] at e
  have e : L_X1_swapPlaces_29 (nI a) (nI b) (P 0 a) 100000 0 (zs P 0 (upd (upd (P 0) a (P 0 b)) b (P 0 a))) = _ := e
  rw [pl_k rfl ha (by omega), pl_k rfl hb (by omega), pw_k rfl ha (by omega), pw_k rfl hb (by omega), zs_s, zs_zs, pb2 e]
  rfl
theorem chM_loop {M : zMm} (l1 l2 l3 : Int32) : ∀ m k n, k + m = 7 → m < n → L_X9_change_56 l1 l2 l3 n (nI k) (zs M 10 (zput (M 10) (fun _ => 0) 7 k)) = some (nI 7, zs M 10 (zput (M 10) (fun _ => 0) 7 7)) := by
  intro m
  induction m with
  | zero =>
    intro k n hk hn
    obtain ⟨n, rfl⟩ : ∃ n', n = n' + 1 := ⟨n - 1, by omega⟩
    rw [L_X9_change_56, if_pos (by rw [n_7, n_le (by omega) (by omega)]; omega), show k = 7 by omega]
  | succ m ih =>
    intro k n hk hn
    obtain ⟨n, rfl⟩ : ∃ n', n = n' + 1 := ⟨n - 1, by omega⟩
    rw [L_X9_change_56, if_neg (by rw [n_7, n_le (by omega) (by omega)]; omega), pw_k (k := 7 + k) (by rw [n_7, n_add]) (by omega) (by omega), zs_s, zs_zs, zput_s (M 10) (fun _ => 0) 7 k, pv, n_1, n_add]
    exact ih (k + 1) n (by omega) (by omega)
theorem ord_sw {f : Nat → Int32} {o : Nat → Nat} (h : iOrd f o) {a b : Nat} (ha : a < 7) (hb : b < 7) (hab : a ≠ b) : iOrd (upd (upd f a (f b)) b (f a)) (fun k => if k = b then o a else if k = a then o b else o k) := by
  obtain ⟨h1, h2⟩ := h
  refine ⟨fun k hk => ?_, fun j k hj hk e => ?_⟩
  · show upd (upd f a (f b)) b (f a) k = nI (if k = b then o a else if k = a then o b else o k) ∧ (if k = b then o a else if k = a then o b else o k) < 7
    by_cases c : k = b
    · rw [c, up_s, if_pos rfl]; exact h1 a ha
    · rw [up_n _ _ c, if_neg c]
      by_cases c2 : k = a
      · rw [c2, up_s, if_pos rfl]; exact h1 b hb
      · rw [up_n _ _ c2, if_neg c2]; exact h1 k hk
  · have e : (if j = b then o a else if j = a then o b else o j) = (if k = b then o a else if k = a then o b else o k) := e
    have q := fun x y hx hy => h2 x y hx hy
    by_cases c1 : j = b <;> by_cases c2 : k = b
    · omega
    · rw [if_pos c1, if_neg c2] at e
      by_cases c3 : k = a
      · rw [if_pos c3] at e; have := q a b ha hb e; omega
      · rw [if_neg c3] at e; have := q a k ha hk e; omega
    · rw [if_neg c1, if_pos c2] at e
      by_cases c3 : j = a
      · rw [if_pos c3] at e; have := q b a hb ha e; omega
      · rw [if_neg c3] at e; have := q j a hj ha e; omega
    · rw [if_neg c1, if_neg c2] at e
      by_cases c3 : j = a <;> by_cases c4 : k = a
      · omega
      · rw [if_pos c3, if_neg c4] at e; have := q b k hb hk e; omega
      · rw [if_neg c3, if_pos c4] at e; have := q j b hj hb e; omega
      · rw [if_neg c3, if_neg c4] at e; exact q j k hj hk e
theorem q_change {X M : zMm} (h : Inv X M) (a b : Int32) : ∃ r X2 M2, f_X8_change X a b = some (r, X2) ∧ f_X9_change M a b = some (r, M2) ∧ Inv X2 M2 := by
  obtain ⟨pl, t, hw, hn, hpx, hpm, h5, hft, ⟨dn, nx, h7⟩, ⟨kn, kx, h8⟩, h9, h10, h11, h12⟩ := id h
  have hb := hw.1
  unfold f_X8_change f_X9_change
  rcases ix a (n := pl 7 0) (by omega) with ⟨i, hi, rfl⟩ | hi
  · rw [pb1 (hasPartX hpx hw hi), if_neg i10, pb1 (isPartM hpm hw hi), if_neg i10]
    rcases ix b (n := pl 7 0) (by omega) with ⟨j, hj, rfl⟩ | hj
    · rw [pb1 (hasPartX hpx hw hj), if_neg i10, pb1 (isPartM hpm hw hj), if_neg i10]
      by_cases c : i = j
      · rw [if_pos (by rw [c]), if_pos (by rw [c])]
        exact ⟨_, _, _, rfl, rfl, h⟩
      · have cn : ¬ nI i = nI j := by rw [n_eq (by omega) (by omega)]; exact c
        obtain ⟨u1, u2, u3, u4, u5, u6, u7⟩ := id h7
        obtain ⟨o, hox, hlen, hfm⟩ := id hft
        have eP := push_a (P := fun j => X (5 + j)) (P1 := fun j => X (3 + j)) u2 u1 u3 u4 u5
        rw [if_neg cn, if_neg cn, pb1 eP, pv, pb1 (knM u1 u6)]
        -- the class's memory
        generalize hX1 : zp X 5 5 (zs (zs (zs (zs (fun j => X (5 + j)) 1 (zput ((fun j => X (5 + j)) 1) ((fun j => X (3 + j)) 0) (7 * nx) 7)) 2 (zput ((fun j => X (5 + j)) 2) ((fun j => X (3 + j)) 1) (7 * nx) 7)) 4 (fun _ => nI ((nx + 1) % 8))) 3 (fun _ => nI (min (dn + 1) 8))) = X1
        have a3 : X1 3 = X 3 := by rw [← hX1]; rfl
        have a4 : X1 4 = X 4 := by rw [← hX1]; rfl
        have eS := swX (P := fun j => X1 (3 + j)) (a := i) (b := j) (by omega) (by omega)
        rw [pb1 eS, pv]
        generalize hX2 : zp X1 3 2 (zs (zs (fun j => X1 (3 + j)) 0 (upd (upd ((fun j => X1 (3 + j)) 0) i ((fun j => X1 (3 + j)) 0 j)) j ((fun j => X1 (3 + j)) 0 i))) 1 (zput ((fun j => X1 (3 + j)) 1) (fun _ => 0) 0 7)) = X2
        have b3 : X2 3 = upd (upd (X 3) i (X 3 j)) j (X 3 i) := by rw [← hX2, ← a3]; rfl
        have b4 : ∀ k, k < 7 → X2 4 k = 0 := fun k hk => by
          have e : X2 4 = zput (X1 4) (fun _ => 0) 0 7 := by rw [← hX2]; rfl
          have := zput_in (X1 4) (fun _ => (0 : Int32)) (b := 0) hk
          rw [Nat.zero_add] at this
          rw [e, this]
        have bo : ∀ k, k < 59 → k ≠ 3 → k ≠ 4 → k < 5 ∨ 10 ≤ k → X2 k = X k := by
          intro k hk h3 h4 h59
          rw [← hX2, ← hX1]
          rcases h59 with q | q
          · rcases (show k = 0 ∨ k = 1 ∨ k = 2 by omega) with rfl | rfl | rfl <;> rfl
          · unfold zp
            have e1 : Nat.blt k (3 + 2) = false := by
              cases hq : Nat.blt k (3 + 2) with
              | false => rfl
              | true => exact absurd (Nat.le_of_ble_eq_true hq) (by omega)
            have e2 : Nat.blt k (5 + 5) = false := by
              cases hq : Nat.blt k (5 + 5) with
              | false => rfl
              | true => exact absurd (Nat.le_of_ble_eq_true hq) (by omega)
            rw [e1, e2, Bool.and_false, Bool.and_false]
            rfl
        have ho2 : iOrd (X2 3) (fun k => if k = j then o i else if k = i then o j else o k) := by rw [b3]; exact ord_sw hox (by omega) (by omega) c
        have hp2 : iPlX (fun j => X2 (35 + j)) pl := by
          have e : ∀ m, m < 12 → X2 (35 + m) = X (35 + m) := fun m hm => bo _ (by omega) (by omega) (by omega) (by omega)
          unfold iPlX at hpx ⊢
          simp only [e 0 (by omega), e 1 (by omega), e 2 (by omega), e 3 (by omega), e 4 (by omega), e 5 (by omega), e 6 (by omega), e 7 (by omega), e 8 (by omega), e 9 (by omega), e 10 (by omega), e 11 (by omega)]
          exact hpx
        -- the reference's memory
        generalize hM1 : zs (zs M 10 (zkn (M 10) dn)) 12 (fun _ => nI (min (dn + 1) 8)) = M1
        have c10 : M1 10 = zkn (M 10) dn := by rw [← hM1]; rfl
        have cl : ∀ k, k < 42 → M1 10 k = M 10 k := fun k hk => by rw [c10]; exact zkn_lo hk
        rw [pl_k rfl (by omega) (by omega), pl_k rfl (by omega) (by omega), pw_k rfl (by omega) (by omega), pw_k rfl (by omega) (by omega), zs_s, zs_zs]
        have eL := chM_loop (M := zs M1 10 (upd (upd (M1 10) i (M1 10 j)) j (M1 10 i))) (nI i) (nI j) (M1 10 i) 7 0 100000 (by omega) (by omega)
        rw [zput_0, zs_self] at eL
        have eL : L_X9_change_56 (nI i) (nI j) (M1 10 i) 100000 0 (zs M1 10 (upd (upd (M1 10) i (M1 10 j)) j (M1 10 i))) = _ := eL
        rw [pb2 eL, zs_s, zs_zs]
        generalize hM2 : zs M1 10 (zput (upd (upd (M1 10) i (M1 10 j)) j (M1 10 i)) (fun _ => 0) 7 7) = M2
        have d10 : M2 10 = zput (upd (upd (M1 10) i (M1 10 j)) j (M1 10 i)) (fun _ => 0) 7 7 := by rw [← hM2]; rfl
        have do_ : ∀ k, k ≠ 10 → k ≠ 12 → M2 k = M k := fun k h1 h2 => by rw [← hM2, ← hM1, zs_n _ _ h1, zs_n _ _ h2, zs_n _ _ h1]
        have d12 : M2 12 0 = nI (min (dn + 1) 8) := by rw [← hM2, ← hM1]; rfl
        have dlo : ∀ k, k < 7 → M2 10 k = X2 3 k := fun k hk => by
          rw [d10, zput_out _ _ (by omega), b3, cl i (by omega), cl j (by omega), (hfm i (by omega)).1, (hfm j (by omega)).1]
          by_cases q : k = j
          · rw [q, up_s, up_s]
          · rw [up_n _ _ q, up_n _ _ q]
            by_cases q2 : k = i
            · rw [q2, up_s, up_s]
            · rw [up_n _ _ q2, up_n _ _ q2, cl k (by omega)]
              exact (hfm k hk).1
        have dmi : ∀ k, k < 7 → M2 10 (7 + k) = 0 := fun k hk => by rw [d10]; exact zput_in _ _ hk
        have dhi : ∀ k, 14 ≤ k → M2 10 k = M1 10 k := fun k hk => by
          rw [d10, zput_out _ _ (by omega), up_n _ _ (by omega), up_n _ _ (by omega)]
        have hom2 : iOrd (M2 10) (fun k => if k = j then o i else if k = i then o j else o k) := ⟨fun k hk => by rw [dlo k hk]; exact ho2.1 k hk, ho2.2⟩
        have hpm2 : iPlM M2 pl := by
          unfold iPlM at hpm ⊢
          simp only [do_ 3 (by decide) (by decide), do_ 4 (by decide) (by decide), do_ 5 (by decide) (by decide), do_ 6 (by decide) (by decide), do_ 7 (by decide) (by decide), do_ 8 (by decide) (by decide), do_ 9 (by decide) (by decide)]
          exact hpm
        have hI : Inv X2 M2 := by
          refine ⟨pl, t, hw, hn, hp2, hpm2, ?_, ⟨_, ho2, len0 hw _ b4, fun k hk => ⟨dlo k hk, (dmi k hk).trans (b4 k hk).symm⟩⟩, ⟨min (dn + 1) 8, (nx + 1) % 8, ?_⟩, ⟨kn, kx, ?_⟩, ?_, ?_, ?_, ?_⟩
          · unfold iTxt at h5 ⊢
            simp only [bo 0 (by decide) (by decide) (by decide) (by decide), bo 2 (by decide) (by decide) (by decide) (by decide), do_ 0 (by decide) (by decide), do_ 1 (by decide) (by decide)]
            exact h5
          · refine iUn_push hw h7 hft ?_ ?_ ?_ ?_ ?_ d12 (fun i hi => by rw [dhi i (by omega), c10])
            · rw [← hX2, ← hX1]; rfl
            · rw [← hX2, ← hX1]; rfl
            · rw [← hX2, ← hX1]; rfl
            · rw [← hX2, ← hX1]; rfl
            · rw [← hX2, ← hX1]; rfl
          · exact iKp_same hw h8 (by rw [bo 10 (by decide) (by decide) (by decide) (by decide)]) (bo 11 (by decide) (by decide) (by decide) (by decide)) (bo 12 (by decide) (by decide) (by decide) (by decide)) (by rw [bo 13 (by decide) (by decide) (by decide) (by decide)]) (by rw [bo 14 (by decide) (by decide) (by decide) (by decide)]) (by rw [do_ 11 (by decide) (by decide)]) (fun i h1 h2 => by rw [dhi i h1]; exact cl i h2)
          · obtain ⟨sn, h9⟩ := h9
            refine ⟨sn, ?_⟩
            unfold iSe at h9 ⊢
            simp only [bo 15 (by decide) (by decide) (by decide) (by decide), bo 16 (by decide) (by decide) (by decide) (by decide), bo 17 (by decide) (by decide) (by decide) (by decide), bo 18 (by decide) (by decide) (by decide) (by decide), do_ 13 (by decide) (by decide), do_ 14 (by decide) (by decide)]
            exact h9
          · obtain ⟨pn, ps, h10⟩ := h10
            refine ⟨pn, ps, ?_⟩
            unfold iPi at h10 ⊢
            simp only [bo 19 (by decide) (by decide) (by decide) (by decide), bo 20 (by decide) (by decide) (by decide) (by decide), bo 21 (by decide) (by decide) (by decide) (by decide), do_ 15 (by decide) (by decide), do_ 16 (by decide) (by decide)]
            exact h10
          · unfold iOr at h11 ⊢
            simp only [bo 22 (by decide) (by decide) (by decide) (by decide), bo 23 (by decide) (by decide) (by decide) (by decide), bo 24 (by decide) (by decide) (by decide) (by decide)]
            exact h11
          · unfold iBo at h12 ⊢
            simp only [bo 29 (by decide) (by decide) (by decide) (by decide)]
            exact h12
        obtain ⟨r, X3, M3, g1, g2, g3⟩ := q_gap hI (-1)
        unfold f_X8_gap at g1
        unfold f_X9_gap at g2
        rw [if_pos rfl, pb1 (measX hp2 hw ho2), if_pos rfl] at g1
        rw [pb1 (measX hp2 hw ho2), pb1 (measM hpm2 hw hom2)]
        rw [hpm2.1.2.2.1, pb1 (in_y (tL (-1)) (lo := -1) rfl (tL1 (by omega)) (by decide) (by rw [m1]; omega)), if_neg i10, pb1 (measM hpm2 hw hom2), if_neg (by decide)] at g2
        exact ⟨r, X3, M3, g1, g2, g3⟩
    · rw [pb1 (hasPartX_no hpx hw hj), if_pos rfl, pb1 (isPartM_no hpm hw hj), if_pos rfl]
      exact ⟨_, _, _, rfl, rfl, h⟩
  · rw [pb1 (hasPartX_no hpx hw hi), if_pos rfl, pb1 (isPartM_no hpm hw hi), if_pos rfl]
    exact ⟨_, _, _, rfl, rfl, h⟩
