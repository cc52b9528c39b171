theorem part6 {M : zMm} {pl : zN} {o : Nat → Nat} (hpm : iPlM M pl) (hw : iWF pl) (hom : iOrd (M 10) o) {i : Nat} (hi : i < pl 7 0) : f_X9_part M (nI i) 6 = some (zLEN pl o (zLM M) i) := by
  have hb := hw.1
  unfold f_X9_part
  rw [pb1 (isPartM hpm hw hi), if_neg i10, pb1 (in_y (tL _) (lo := 0) (hi := 6) rfl rfl (by decide) (by decide)), if_neg i10, if_neg (by decide), if_neg (by decide), if_neg (by decide), if_pos rfl, pb1 (slipNowM hpm hw hom hi), pb1 (cutM hpm hw hi _), pl_k (k := 7 + i) (by rw [n_7, n_add]) (by omega) (by omega)]
  rfl
theorem q_alter {X M : zMm} (h : Inv X M) (a b : Int32) : ∃ r X2 M2, f_X8_alter X a b = some (r, X2) ∧ f_X9_alter M a b = some (r, M2) ∧ Inv X2 M2 := by
  obtain ⟨pl, t, hw, hn, hpx, hpm, h5, hft, ⟨dn, nx, h7⟩, ⟨kn, kx, h8⟩, h9, h10, h11, h12⟩ := id h
  have hb := hw.1
  have e9 : (9 : Int32).toInt = 9 := rfl
  have em9 : (-9 : Int32).toInt = -9 := rfl
  have e1 : (1 : Int32).toInt = 1 := rfl
  have e299 : (299 : Int32).toInt = 299 := rfl
  unfold f_X8_alter f_X9_alter
  rcases ix a (n := pl 7 0) (by omega) with ⟨i, hi, rfl⟩ | hi
  · obtain ⟨o, hox, hlen, hfm⟩ := id hft
    have hom : iOrd (M 10) o := ordM (pl := pl) hox hfm
    rw [pb1 (hasPartX hpx hw hi), if_neg i10, pb1 (isPartM hpm hw hi), if_neg i10]
    by_cases c : -9 ≤ b.toInt ∧ b.toInt ≤ 9
    · rw [if_neg (by rw [ltT]; omega), if_pos (by rw [leT]; omega), pb1 (in_y (tL _) (lo := -9) (hi := 9) rfl rfl c.1 c.2), if_neg i10, pb1 (lenNowX hpx hw hox hi), pb1 (part6 hpm hw hom hi), pv, pv]
      have eLL : zLEN pl o (zLM M) i = zLEN pl o (X 4) i := ft_len hw (fun k hk => (hfm k hk).2) i hi
      rw [eLL]
      by_cases c2 : 1 ≤ (zLEN pl o (X 4) i + b).toInt ∧ (zLEN pl o (X 4) i + b).toInt ≤ 299
      · obtain ⟨u1, u2, u3, u4, u5, u6, u7⟩ := id h7
        have eP := push_a (P := fun j => X (5 + j)) (P1 := fun j => X (3 + j)) u2 u1 u3 u4 u5
        rw [if_neg (by rw [ltT]; omega), if_pos (by rw [leT]; omega), pb1 eP, pv, pb1 (in_y (tL _) (lo := 1) (hi := 299) rfl rfl c2.1 c2.2), if_neg i10, pb1 (knM u1 u6)]
        generalize hX1 : zp X 5 5 (zs (zs (zs (zs (fun j => X (5 + j)) 1 (zput ((fun j => X (5 + j)) 1) ((fun j => X (3 + j)) 0) (7 * nx) 7)) 2 (zput ((fun j => X (5 + j)) 2) ((fun j => X (3 + j)) 1) (7 * nx) 7)) 4 (fun _ => nI ((nx + 1) % 8))) 3 (fun _ => nI (min (dn + 1) 8))) = X1
        have a4 : X1 4 = X 4 := by rw [← hX1]; rfl
        rw [pl_k rfl (by omega) (by omega), pw_k rfl (by omega) (by omega), a4]
        generalize hX2 : zs X1 4 (upd (X 4) i (X 4 i + b)) = X2
        have b3 : X2 3 = X 3 := by rw [← hX2, ← hX1]; rfl
        have b4 : X2 4 = upd (X 4) i (X 4 i + b) := by rw [← hX2]; rfl
        have bo : ∀ k, k < 59 → k ≠ 3 → k ≠ 4 → k < 5 ∨ 10 ≤ k → X2 k = X k := by
          intro k hk h3 h4 h59
          rw [← hX2, zs_n _ _ h4, ← hX1]
          rcases h59 with q | q
          · rcases (show k = 0 ∨ k = 1 ∨ k = 2 by omega) with rfl | rfl | rfl <;> rfl
          · unfold zp
            have e2 : Nat.blt k (5 + 5) = false := by
              cases hq : Nat.blt k (5 + 5) with
              | false => rfl
              | true => exact absurd (Nat.le_of_ble_eq_true hq) (by omega)
            rw [e2, Bool.and_false]
            rfl
        have hp2 : iPlX (fun j => X2 (35 + j)) pl := by
          have e : ∀ m, m < 12 → X2 (35 + m) = X (35 + m) := fun m hm => bo _ (by omega) (by omega) (by omega) (by omega)
          unfold iPlX at hpx ⊢
          simp only [e 0 (by omega), e 1 (by omega), e 2 (by omega), e 3 (by omega), e 4 (by omega), e 5 (by omega), e 6 (by omega), e 7 (by omega), e 8 (by omega), e 9 (by omega), e 10 (by omega), e 11 (by omega)]
          exact hpx
        generalize hM1 : zs (zs M 10 (zkn (M 10) dn)) 12 (fun _ => nI (min (dn + 1) 8)) = M1
        have c10 : M1 10 = zkn (M 10) dn := by rw [← hM1]; rfl
        have cl : ∀ k, k < 42 → M1 10 k = M 10 k := fun k hk => by rw [c10]; exact zkn_lo hk
        rw [pl_k (k := 7 + i) (by rw [n_7, n_add]) (by omega) (by omega), pw_k (k := 7 + i) (by rw [n_7, n_add]) (by omega) (by omega)]
        generalize hM2 : zs M1 10 (upd (M1 10) (7 + i) (M1 10 (7 + i) + b)) = M2
        have d10 : M2 10 = upd (M1 10) (7 + i) (M1 10 (7 + i) + b) := by rw [← hM2]; rfl
        have do_ : ∀ k, k ≠ 10 → k ≠ 12 → M2 k = M k := fun k h1 h2 => by rw [← hM2, ← hM1, zs_n _ _ h1, zs_n _ _ h2, zs_n _ _ h1]
        have d12 : M2 12 0 = nI (min (dn + 1) 8) := by rw [← hM2, ← hM1]; rfl
        have dhi : ∀ k, 14 ≤ k → M2 10 k = M1 10 k := fun k hk => by rw [d10, up_n _ _ (by omega)]
        have dlo : ∀ k, k < 7 → M2 10 k = X2 3 k := fun k hk => by rw [d10, up_n _ _ (by omega), cl k (by omega), b3]; exact (hfm k hk).1
        have dmi : ∀ k, k < 7 → M2 10 (7 + k) = X2 4 k := fun k hk => by
          rw [d10, b4]
          by_cases q : k = i
          · rw [q, up_s, up_s, cl _ (by omega), (hfm i (by omega)).2]
          · rw [up_n _ _ (by omega), up_n _ _ q, cl _ (by omega)]
            exact (hfm k hk).2
        have hpm2 : iPlM M2 pl := by
          unfold iPlM at hpm ⊢
          simp only [do_ 3 (by decide) (by decide), do_ 4 (by decide) (by decide), do_ 5 (by decide) (by decide), do_ 6 (by decide) (by decide), do_ 7 (by decide) (by decide), do_ 8 (by decide) (by decide), do_ 9 (by decide) (by decide)]
          exact hpm
        have ho2 : iOrd (X2 3) o := by rw [b3]; exact hox
        have hl2 : iLen pl o (X2 4) := by
          intro k hk
          rw [b4]
          unfold zLEN
          by_cases q : k = i
          · rw [q, up_s, ← Int32.add_assoc]
            exact c2
          · rw [up_n _ _ q]
            exact hlen k hk
        have hI : Inv X2 M2 := by
          refine ⟨pl, t, hw, hn, hp2, hpm2, ?_, ⟨_, ho2, hl2, fun k hk => ⟨dlo k hk, dmi k hk⟩⟩, ⟨min (dn + 1) 8, (nx + 1) % 8, ?_⟩, ⟨kn, kx, ?_⟩, ?_, ?_, ?_, ?_⟩
          · unfold iTxt at h5 ⊢
            simp only [bo 0 (by decide) (by decide) (by decide) (by decide), bo 2 (by decide) (by decide) (by decide) (by decide), do_ 0 (by decide) (by decide), do_ 1 (by decide) (by decide)]
            exact h5
          · refine iUn_push hw h7 hft ?_ ?_ ?_ ?_ ?_ d12 (fun i hi => by rw [dhi i (by omega), c10])
            · rw [← hX2, ← hX1]; rfl
            · rw [← hX2, ← hX1]; rfl
            · rw [← hX2, ← hX1]; rfl
            · rw [← hX2, ← hX1]; rfl
            · rw [← hX2, ← hX1]; rfl
          · exact iKp_same hw h8 (by rw [bo 10 (by decide) (by decide) (by decide) (by decide)]) (bo 11 (by decide) (by decide) (by decide) (by decide)) (bo 12 (by decide) (by decide) (by decide) (by decide)) (by rw [bo 13 (by decide) (by decide) (by decide) (by decide)]) (by rw [bo 14 (by decide) (by decide) (by decide) (by decide)]) (by rw [do_ 11 (by decide) (by decide)]) (fun i h1 h2 => by rw [dhi i h1]; exact cl i h2)
          · obtain ⟨sn, h9⟩ := h9
            refine ⟨sn, ?_⟩
            unfold iSe at h9 ⊢
            simp only [bo 15 (by decide) (by decide) (by decide) (by decide), bo 16 (by decide) (by decide) (by decide) (by decide), bo 17 (by decide) (by decide) (by decide) (by decide), bo 18 (by decide) (by decide) (by decide) (by decide), do_ 13 (by decide) (by decide), do_ 14 (by decide) (by decide)]
            exact h9
          · obtain ⟨pn, ps, h10⟩ := h10
            refine ⟨pn, ps, ?_⟩
            unfold iPi at h10 ⊢
            simp only [bo 19 (by decide) (by decide) (by decide) (by decide), bo 20 (by decide) (by decide) (by decide) (by decide), bo 21 (by decide) (by decide) (by decide) (by decide), do_ 15 (by decide) (by decide), do_ 16 (by decide) (by decide)]
            exact h10
          · unfold iOr at h11 ⊢
            simp only [bo 22 (by decide) (by decide) (by decide) (by decide), bo 23 (by decide) (by decide) (by decide) (by decide), bo 24 (by decide) (by decide) (by decide) (by decide)]
            exact h11
          · unfold iBo at h12 ⊢
            simp only [bo 29 (by decide) (by decide) (by decide) (by decide)]
            exact h12
        exact ⟨_, _, _, rfl, rfl, hI⟩
      · rw [pb1 (in_n (tL _) (lo := 1) (hi := 299) rfl rfl (by omega)), if_pos rfl]
        by_cases c3 : zLEN pl o (X 4) i + b < 1
        · rw [if_pos c3]
          exact ⟨_, _, _, rfl, rfl, h⟩
        · rw [if_neg c3, if_neg (by rw [leT]; rw [ltT] at c3; omega)]
          exact ⟨_, _, _, rfl, rfl, h⟩
    · rw [pb1 (in_n (tL _) (lo := -9) (hi := 9) rfl rfl (by omega)), if_pos rfl]
      by_cases c3 : b < -9
      · rw [if_pos c3]
        exact ⟨_, _, _, rfl, rfl, h⟩
      · rw [if_neg c3, if_neg (by rw [leT]; rw [ltT] at c3; omega)]
        exact ⟨_, _, _, rfl, rfl, h⟩
  · rw [pb1 (hasPartX_no hpx hw hi), if_pos rfl, pb1 (isPartM_no hpm hw hi), if_pos rfl]
    exact ⟨_, _, _, rfl, rfl, h⟩
