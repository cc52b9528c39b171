/-- the text as codes: what stands at each place -/
def iTc (X M : zMm) (t : Nat) (c : Nat → Nat) : Prop := t ≤ 300 ∧ X 2 0 = nI t ∧ M 0 0 = nI t ∧ ∀ i, i < t → c i < 256 ∧ X 0 i &&& 255 = nI (c i) ∧ (c i < 128 → M 1 i = nI (c i)) ∧ (128 ≤ c i → (M 1 i).toInt < 0)
theorem by_a : ∀ n : Fin 256, ((Int8.ofNat n.val).toInt32 &&& 255) = nI n.val ∧ (n.val < 128 → (Int8.ofNat n.val).toInt32 = nI n.val) ∧ (128 ≤ n.val → ((Int8.ofNat n.val).toInt32).toInt < 0) := by decide +kernel
theorem by_b (y : Int8) : ∃ n : Fin 256, y = Int8.ofNat n.val := ⟨⟨y.toUInt8.toNat, y.toUInt8.toNat_lt⟩, by
  apply Int8.toBitVec_inj.1
  apply BitVec.eq_of_toNat_eq
  show y.toBitVec.toNat = (BitVec.ofNat 8 y.toBitVec.toNat).toNat
  rw [BitVec.ofNat_toNat]
  rfl⟩
theorem by_c (x : Int32) : ∃ c, x.toInt8.toInt32 = x → (c < 256 ∧ x &&& 255 = nI c ∧ (c < 128 → x = nI c) ∧ (128 ≤ c → x.toInt < 0)) := by
  obtain ⟨n, hn⟩ := by_b x.toInt8
  refine ⟨n.val, fun h => ?_⟩
  have q := by_a n
  rw [← hn, h] at q
  exact ⟨n.isLt, q⟩
theorem iTc_of {X M : zMm} {t : Nat} (h : iTxt X M t) : ∃ c, iTc X M t c := by
  obtain ⟨h1, h2, h3, h4⟩ := h
  refine ⟨fun i => Classical.choose (by_c (M 1 i)), h1, h2, h3, fun i hi => ?_⟩
  have q := Classical.choose_spec (by_c (M 1 i)) (h4 i hi).2
  rw [(h4 i hi).1]
  exact q
def zD (c : Nat) : Bool := Nat.ble 48 c && Nat.ble c 57
theorem zD_t {c : Nat} : zD c = true ↔ 48 ≤ c ∧ c ≤ 57 := by
  unfold zD
  rw [Bool.and_eq_true, Nat.ble_eq, Nat.ble_eq]
/-- how many figures stand in a row -/
def zrn (c : Nat → Nat) : Nat → Nat → Nat
  | 0, _ => 0
  | k + 1, s => if zD (c s) = true then zrn c k (s + 1) + 1 else 0
/-- the number after m figures -/
def zva (c : Nat → Nat) : Nat → Nat → Nat → Nat
  | 0, _, v => v
  | m + 1, s, v => zva c m (s + 1) (10 * v + c s - 48)
theorem zrn_le (c : Nat → Nat) : ∀ k s, zrn c k s ≤ k := by
  intro k
  induction k with
  | zero => intro s; exact Nat.le_refl _
  | succ k ih =>
    intro s
    unfold zrn
    split
    · have := ih (s + 1)
      omega
    · omega
theorem zrn_D (c : Nat → Nat) : ∀ k s i, i < zrn c k s → zD (c (s + i)) = true := by
  intro k
  induction k with
  | zero => intro s i h; exact absurd h (Nat.not_lt_zero _)
  | succ k ih =>
    intro s i h
    unfold zrn at h
    split at h
    · rename_i hd
      cases i with
      | zero => exact hd
      | succ i =>
        have := ih (s + 1) i (by omega)
        rw [show s + (i + 1) = s + 1 + i by omega]
        exact this
    · exact absurd h (Nat.not_lt_zero _)
theorem zrn_E (c : Nat → Nat) : ∀ k s, zrn c k s < k → zD (c (s + zrn c k s)) = false := by
  intro k
  induction k with
  | zero => intro s h; exact absurd h (Nat.not_lt_zero _)
  | succ k ih =>
    intro s h
    cases hd : zD (c s) with
    | true =>
      have e : zrn c (k + 1) s = zrn c k (s + 1) + 1 := by rw [zrn, if_pos hd]
      rw [e] at h ⊢
      rw [show s + (zrn c k (s + 1) + 1) = s + 1 + zrn c k (s + 1) by omega]
      exact ih (s + 1) (by omega)
    | false =>
      have e : zrn c (k + 1) s = 0 := by rw [zrn, if_neg (by rw [hd]; decide)]
      rw [e]
      exact hd
theorem zva_b (c : Nat → Nat) : ∀ m s v, (∀ i, i < m → zD (c (s + i)) = true) → zva c m s v + 1 ≤ 10 ^ m * (v + 1) := by
  intro m
  induction m with
  | zero => intro s v _; simp [zva]
  | succ m ih =>
    intro s v h
    have h0 := zD_t.1 (h 0 (by omega))
    have h1 := ih (s + 1) (10 * v + c s - 48) (fun i hi => by rw [show s + 1 + i = s + (i + 1) by omega]; exact h (i + 1) (by omega))
    unfold zva
    rw [Nat.add_zero] at h0
    refine Nat.le_trans h1 ?_
    rw [Nat.pow_succ, Nat.mul_assoc]
    exact Nat.mul_le_mul_left _ (by omega)
theorem bAt {X M : zMm} {t : Nat} {c : Nat → Nat} (h : iTc X M t c) {i : Nat} (hi : i < t) : f_X7_byteAt X (nI i) = some (nI (c i)) := by
  obtain ⟨h1, h2, h3, h4⟩ := h
  unfold f_X7_byteAt
  rw [if_neg (by rw [n_0, n_lt (by omega) (by omega)]; omega), h2, if_neg (by rw [n_le (by omega) (by omega)]; omega), pl_k rfl (by omega) (by omega), (h4 i hi).2.1]
theorem bEn {X M : zMm} {t : Nat} {c : Nat → Nat} (h : iTc X M t c) {i : Nat} (hi : t ≤ i) (hj : i < 1000) : f_X7_byteAt X (nI i) = some (-1) := by
  obtain ⟨h1, h2, h3, h4⟩ := h
  unfold f_X7_byteAt
  rw [if_neg (by rw [n_0, n_lt (by omega) (by omega)]; omega), h2, if_pos (by rw [n_le (by omega) (by omega)]; exact hi)]
theorem numX {X M : zMm} {t : Nat} {c : Nat → Nat} (h : iTc X M t c) {s : Nat} (hs : s ≤ t) (q : Int32) : ∀ k j n v, j + k = 3 → s + j ≤ t → k < n → L_X7_readNumber_5 X (nI s) q n (nI (s + j)) (nI v) = some (nI (s + j + min k (zrn c (t - (s + j)) (s + j))), nI (zva c (min k (zrn c (t - (s + j)) (s + j))) (s + j) v)) := by
  have ht := h.1
  intro k
  induction k with
  | zero =>
    intro j n v hj hst hn
    obtain ⟨n, rfl⟩ : ∃ n', n = n' + 1 := ⟨n - 1, by omega⟩
    rw [L_X7_readNumber_5, n_3, n_add, if_pos (by rw [n_le (by omega) (by omega)]; omega), Nat.zero_min]
    rfl
  | succ k ih =>
    intro j n v hj hst hn
    obtain ⟨n, rfl⟩ : ∃ n', n = n' + 1 := ⟨n - 1, by omega⟩
    rw [L_X7_readNumber_5, n_3, n_add, if_neg (by rw [n_le (by omega) (by omega)]; omega)]
    by_cases he : s + j < t
    · have hc := (h.2.2.2 (s + j) he).1
      rw [pb1 (bAt h he)]
      obtain ⟨d, hd⟩ : ∃ d, t - (s + j) = d + 1 := ⟨t - (s + j) - 1, by omega⟩
      cases hD : zD (c (s + j)) with
      | true =>
        have hz := zD_t.1 hD
        have e : zrn c (t - (s + j)) (s + j) = zrn c (t - (s + (j + 1))) (s + (j + 1)) + 1 := by
          rw [hd, zrn, if_pos hD, show t - (s + (j + 1)) = d by omega]
          rfl
        have ev : nI 10 * nI v + nI (c (s + j)) - nI 48 = nI (10 * v + c (s + j) - 48) := by
          rw [n_mul, n_add, ← iI_n, ← iI_n, iI_sub, ← iI_n]
          congr 1
          omega
        rw [if_neg (by rw [n_48, n_lt (by omega) (by omega)]; omega), pb1 (bAt h he), if_neg (by rw [n_57, n_lt (by omega) (by omega)]; omega), pb1 (bAt h he), pv, pv, n_10, n_48, ev, n_1, n_add, Nat.add_assoc, ih (j + 1) n _ (by omega) (by omega) (by omega), e, Nat.add_min_add_right, zva]
        rw [show s + j + (min k (zrn c (t - (s + (j + 1))) (s + (j + 1))) + 1) = s + (j + 1) + min k (zrn c (t - (s + (j + 1))) (s + (j + 1))) by omega]
        rfl
      | false =>
        have hz : ¬ (48 ≤ c (s + j) ∧ c (s + j) ≤ 57) := fun q => by
          rw [zD_t.2 q] at hD
          exact absurd hD (by decide)
        have e : zrn c (t - (s + j)) (s + j) = 0 := by rw [hd, zrn, if_neg (by rw [hD]; decide)]
        rw [e, Nat.min_zero]
        by_cases c1 : c (s + j) < 48
        · rw [if_pos (by rw [n_48, n_lt (by omega) (by omega)]; exact c1)]
          rfl
        · rw [if_neg (by rw [n_48, n_lt (by omega) (by omega)]; exact c1), pb1 (bAt h he), if_pos (by rw [n_57, n_lt (by omega) (by omega)]; omega)]
          rfl
    · have e : zrn c (t - (s + j)) (s + j) = 0 := by rw [show t - (s + j) = 0 by omega]; rfl
      rw [pb1 (bEn h (by omega) (by omega)), if_pos (by decide), e, Nat.min_zero]
      rfl
