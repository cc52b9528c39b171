theorem sh8a : ∀ k, k < 8 → ((((8 : Int32) * nI k).toInt64.toUInt64 &&& Int64.toUInt64 63).toBitVec % 64).toNat = 8 * k := by decide +kernel
theorem sh8b : ∀ k, k < 8 → ((((8 : Int32) * nI k).toInt64 &&& 63).toBitVec.smod 64).toNat = 8 * k := by decide +kernel
theorem sh8 (v : Int64) {k : Nat} (hk : k < 8) : (((v.toUInt64 >>> (((8 : Int32) * nI k).toInt64.toUInt64 &&& Int64.toUInt64 63)).toInt64).toInt32).toInt8 = ((v >>> (((8 : Int32) * nI k).toInt64 &&& 63)).toInt32).toInt8 := by
  apply Int8.toBitVec.inj
  show BitVec.signExtend 8 (BitVec.signExtend 32 (v.toBitVec >>> ((((8 : Int32) * nI k).toInt64.toUInt64 &&& Int64.toUInt64 63).toBitVec % 64))) = BitVec.signExtend 8 (BitVec.signExtend 32 (v.toBitVec.sshiftRight' ((((8 : Int32) * nI k).toInt64 &&& 63).toBitVec.smod 64)))
  apply BitVec.eq_of_getLsbD_eq
  intro i hi
  rw [BitVec.ushiftRight_eq', BitVec.sshiftRight_eq', sh8a k hk, sh8b k hk]
  rw [BitVec.getLsbD_signExtend, BitVec.getLsbD_signExtend, BitVec.getLsbD_signExtend, BitVec.getLsbD_signExtend, if_pos (by omega), if_pos (by omega), if_pos (by omega), if_pos (by omega), BitVec.getLsbD_ushiftRight, BitVec.getLsbD_sshiftRight]
  have h1 : decide (64 ≤ i) = false := by simp; omega
  have h2 : 8 * k + i < 64 := by omega
  simp [h1, h2]
theorem zp3 (X : zMm) (A B : Nat → Int32) : zp X 0 3 (zs (zs X 0 A) 2 B) = zs (zs X 0 A) 2 B := by
  funext i
  by_cases h : i < 3
  · rcases (show i = 0 ∨ i = 1 ∨ i = 2 by omega) with rfl | rfl | rfl <;> rfl
  · have e : Nat.blt i (0 + 3) = false := by
      cases hq : Nat.blt i (0 + 3) with
      | false => rfl
      | true => exact absurd (Nat.le_of_ble_eq_true hq) (by omega)
    have e2 : zs (zs X 0 A) 2 B i = X i := by rw [zs_n _ _ (by omega), zs_n _ _ (by omega)]
    unfold zp
    rw [e, Bool.and_false, e2]
    rfl
theorem appX {X : zMm} {t : Nat} (ht : t < 300) (h : X 2 0 = nI t) (b : Int32) : f_X7_append X b = some (zs (zs X 0 (upd (X 0) t (b.toInt8.toInt32.toInt8.toInt32))) 2 (fun _ => nI t + 1)) := by
  unfold f_X7_append
  have e2 : ∀ g, (zs X 0 g) 2 0 = nI t := fun g => h
  rw [h, if_neg (by rw [n_300, n_le (by omega) (by omega)]; omega), pw_k rfl (by omega) (by omega), pv, e2, vp_nar_byte]
theorem b8 (x : Int32) : x.toInt8.toInt32.toInt8.toInt32 = x.toInt8.toInt32 := by
  rw [Int8.toInt8_toInt32]
theorem wr_loop (a1 : Int32) (v : Int64) : ∀ k n X M t, t + k ≤ 300 → k < n → k ≤ 8 → iTxt X M t → ∃ X2 M2, L_X8_write_36 a1 v n (iI ((k : Int) - 1)) X = some (-1, X2) ∧ L_X9_write_34 a1 v n (iI ((k : Int) - 1)) M = some (-1, M2) ∧ iTxt X2 M2 (t + k) ∧ (∀ j, j ≠ 0 → j ≠ 2 → X2 j = X j) ∧ (∀ j, j ≠ 0 → j ≠ 1 → M2 j = M j) := by
  intro k
  induction k with
  | zero =>
    intro n X M t h1 h2 h3 h
    obtain ⟨n, rfl⟩ : ∃ n', n = n' + 1 := ⟨n - 1, by omega⟩
    have e : iI (((0 : Nat) : Int) - 1) = -1 := rfl
    refine ⟨X, M, ?_, ?_, h, fun _ _ _ => rfl, fun _ _ _ => rfl⟩
    · rw [e, L_X8_write_36, if_pos (by decide)]
    · rw [e, L_X9_write_34, if_pos (by decide)]
  | succ k ih =>
    intro n X M t h1 h2 h3 h
    obtain ⟨n, rfl⟩ : ∃ n', n = n' + 1 := ⟨n - 1, by omega⟩
    obtain ⟨t1, t2, t3, t4⟩ := h
    have e : iI (((k + 1 : Nat) : Int) - 1) = nI k := by rw [← iI_n]; congr 1; omega
    have ed : nI k + (-1) = iI ((k : Int) - 1) := by rw [← iI_n, show (-1 : Int32) = iI (-1) from rfl, iI_add]; rfl
    have e0 : ∀ g, (zs M 1 g) 0 0 = nI t := fun g => t3
    rw [e, L_X8_write_36, L_X9_write_34, if_neg (nI_pos (by omega)), if_neg (nI_pos (by omega)), pb1 (appX (by omega) t2 _), pv, zp3, pv, t3, pw_k rfl (by omega) (by omega), pv, pv, ed, e0]
    have hI : iTxt (zs (zs X 0 (upd (X 0) t ((((v.toUInt64 >>> (((8 : Int32) * nI k).toInt64.toUInt64 &&& Int64.toUInt64 63)).toInt64).toInt32).toInt8.toInt32.toInt8.toInt32))) 2 (fun _ => nI t + 1)) (zs (zs M 1 (upd (M 1) t (vp_nar .byte (((v >>> (((8 : Int32) * nI k).toInt64 &&& 63)).toInt32).toInt8.toInt32)))) 0 (fun _ => nI t + 1)) (t + 1) := by
      refine ⟨by omega, ?_, ?_, fun i hi => ?_⟩
      · show nI t + 1 = nI (t + 1)
        rw [n_1, n_add]
      · show nI t + 1 = nI (t + 1)
        rw [n_1, n_add]
      · show upd (X 0) t ((((v.toUInt64 >>> (((8 : Int32) * nI k).toInt64.toUInt64 &&& Int64.toUInt64 63)).toInt64).toInt32).toInt8.toInt32.toInt8.toInt32) i = upd (M 1) t (vp_nar .byte (((v >>> (((8 : Int32) * nI k).toInt64 &&& 63)).toInt32).toInt8.toInt32)) i ∧ (upd (M 1) t (vp_nar .byte (((v >>> (((8 : Int32) * nI k).toInt64 &&& 63)).toInt32).toInt8.toInt32)) i).toInt8.toInt32 = upd (M 1) t (vp_nar .byte (((v >>> (((8 : Int32) * nI k).toInt64 &&& 63)).toInt32).toInt8.toInt32)) i
        by_cases c : i = t
        · rw [c, up_s, up_s, vp_nar_byte, b8, b8, sh8 v (by omega), b8]
          exact ⟨rfl, rfl⟩
        · rw [up_n _ _ c, up_n _ _ c]
          exact t4 i (by omega)
    obtain ⟨X2, M2, g1, g2, g3, g4, g5⟩ := ih n _ _ (t + 1) (by omega) (by omega) (by omega) hI
    refine ⟨X2, M2, g1, g2, ?_, fun j h0 h2 => ?_, fun j h0 h1 => ?_⟩
    · rw [show t + (k + 1) = t + 1 + k by omega]
      exact g3
    · rw [g4 j h0 h2, zs_n _ _ h2, zs_n _ _ h0]
    · rw [g5 j h0 h1, zs_n _ _ h0, zs_n _ _ h1]
theorem q_write {X M : zMm} (h : Inv X M) (a : Int32) (v : Int64) : ∃ r X2 M2, f_X8_write X a v = some (r, X2) ∧ f_X9_write M a v = some (r, M2) ∧ Inv X2 M2 := by
  obtain ⟨pl, t, hw, hn, hpx, hpm, h5, hft, h7, h8, h9, h10, h11, h12⟩ := id h
  obtain ⟨t1, t2, t3, t4⟩ := id h5
  have e1 : (1 : Int32).toInt = 1 := rfl
  have e8 : (8 : Int32).toInt = 8 := rfl
  unfold f_X8_write f_X9_write
  by_cases c : 1 ≤ a.toInt ∧ a.toInt ≤ 8
  · obtain ⟨n, hnn⟩ := Int.eq_ofNat_of_zero_le (show 0 ≤ a.toInt by omega)
    have ha : a = nI n := eqN hnn
    subst ha
    rw [if_neg (by rw [ltT]; omega), if_pos (by rw [leT]; omega), pb1 (in_y (tL _) (lo := 1) (hi := 8) rfl rfl c.1 c.2), if_neg i10, t2, t3, n_add]
    by_cases c2 : t + n ≤ 300
    · rw [if_pos (by rw [n_300, n_le (by omega) (by omega)]; exact c2), if_pos (by rw [n_300, n_le (by omega) (by omega)]; exact c2)]
      obtain ⟨X2, M2, g1, g2, g3, g4, g5⟩ := wr_loop (nI n) v n 100000 X M t c2 (by omega) (by omega) h5
      have e : iI ((n : Int) - 1) = nI n - 1 := by rw [n_1, ← iI_n, ← iI_n, iI_sub]; rfl
      rw [e] at g1 g2
      rw [pv, pb2 g1, pv, pb2 g2]
      refine ⟨_, _, _, rfl, sw (g3.2.2.1.trans g3.2.1.symm), pl, t + n, hw, hn, ?_, ?_, g3, ?_, ?_, ?_, ?_, ?_, ?_, ?_⟩
      · unfold iPlX at hpx ⊢
        simp only [g4 (35 + 0) (by decide) (by decide), g4 (35 + 1) (by decide) (by decide), g4 (35 + 2) (by decide) (by decide), g4 (35 + 3) (by decide) (by decide), g4 (35 + 4) (by decide) (by decide), g4 (35 + 5) (by decide) (by decide), g4 (35 + 6) (by decide) (by decide), g4 (35 + 7) (by decide) (by decide), g4 (35 + 8) (by decide) (by decide), g4 (35 + 9) (by decide) (by decide), g4 (35 + 10) (by decide) (by decide), g4 (35 + 11) (by decide) (by decide)]
        exact hpx
      · unfold iPlM at hpm ⊢
        simp only [g5 3 (by decide) (by decide), g5 4 (by decide) (by decide), g5 5 (by decide) (by decide), g5 6 (by decide) (by decide), g5 7 (by decide) (by decide), g5 8 (by decide) (by decide), g5 9 (by decide) (by decide)]
        exact hpm
      · rw [g4 3 (by decide) (by decide), g4 4 (by decide) (by decide), g5 10 (by decide) (by decide)]
        exact hft
      · obtain ⟨dn, nx, h7⟩ := h7
        refine ⟨dn, nx, ?_⟩
        unfold iUn at h7 ⊢
        simp only [g4 5 (by decide) (by decide), g4 6 (by decide) (by decide), g4 7 (by decide) (by decide), g4 8 (by decide) (by decide), g4 9 (by decide) (by decide), g5 12 (by decide) (by decide), g5 10 (by decide) (by decide)]
        exact h7
      · obtain ⟨kn, kx, h8⟩ := h8
        refine ⟨kn, kx, ?_⟩
        unfold iKp at h8 ⊢
        simp only [g4 10 (by decide) (by decide), g4 11 (by decide) (by decide), g4 12 (by decide) (by decide), g4 13 (by decide) (by decide), g4 14 (by decide) (by decide), g5 11 (by decide) (by decide), g5 10 (by decide) (by decide)]
        exact h8
      · obtain ⟨sn, h9⟩ := h9
        refine ⟨sn, ?_⟩
        unfold iSe at h9 ⊢
        simp only [g4 15 (by decide) (by decide), g4 16 (by decide) (by decide), g4 17 (by decide) (by decide), g4 18 (by decide) (by decide), g5 13 (by decide) (by decide), g5 14 (by decide) (by decide)]
        exact h9
      · obtain ⟨pn, ps, h10⟩ := h10
        refine ⟨pn, ps, ?_⟩
        unfold iPi at h10 ⊢
        simp only [g4 19 (by decide) (by decide), g4 20 (by decide) (by decide), g4 21 (by decide) (by decide), g5 15 (by decide) (by decide), g5 16 (by decide) (by decide)]
        exact h10
      · unfold iOr at h11 ⊢
        simp only [g4 22 (by decide) (by decide), g4 23 (by decide) (by decide), g4 24 (by decide) (by decide)]
        exact h11
      · unfold iBo at h12 ⊢
        simp only [g4 29 (by decide) (by decide)]
        exact h12
    · rw [if_neg (by rw [n_300, n_le (by omega) (by omega)]; exact c2), if_neg (by rw [n_300, n_le (by omega) (by omega)]; exact c2)]
      exact ⟨_, _, _, rfl, rfl, h⟩
  · rw [pb1 (in_n (tL _) (lo := 1) (hi := 8) rfl rfl (by omega)), if_pos rfl]
    by_cases c3 : a < 1
    · rw [if_pos c3]
      exact ⟨_, _, _, rfl, rfl, h⟩
    · rw [if_neg c3, if_neg (by rw [leT]; rw [ltT] at c3; omega)]
      exact ⟨_, _, _, rfl, rfl, h⟩
