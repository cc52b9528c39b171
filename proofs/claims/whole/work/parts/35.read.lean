/-- the text as codes: what stands at each place -/
def iTc (X M : zMm) (t : Nat) (c : Nat → Nat) : Prop := t ≤ 300 ∧ X 2 0 = nI t ∧ M 0 0 = nI t ∧ ∀ i, i < t → c i < 256 ∧ X 0 i &&& 255 = nI (c i) ∧ (c i < 128 → M 1 i = nI (c i)) ∧ (128 ≤ c i → (M 1 i).toInt < 0)
theorem by_a : ∀ n : Fin 256, ((Int8.ofNat n.val).toInt32 &&& 255) = nI n.val ∧ (n.val < 128 → (Int8.ofNat n.val).toInt32 = nI n.val) ∧ (128 ≤ n.val → ((Int8.ofNat n.val).toInt32).toInt < 0) := by decide +kernel
theorem by_b (y : Int8) : ∃ n : Fin 256, y = Int8.ofNat n.val := ⟨⟨y.toUInt8.toNat, y.toUInt8.toNat_lt⟩, by
  apply Int8.toBitVec_inj.1
  apply BitVec.eq_of_toNat_eq
  show y.toBitVec.toNat = (BitVec.ofNat 8 y.toBitVec.toNat).toNat
  rw [BitVec.ofNat_toNat]
  rfl⟩
theorem by_c (x : Int32) : ∃ c, x.toInt8.toInt32 = x → (c < 256 ∧ x &&& 255 = nI c ∧ (c < 128 → x = nI c) ∧ (128 ≤ c → x.toInt < 0)) := by
  obtain ⟨n, hn⟩ := by_b x.toInt8
  refine ⟨n.val, fun h => ?_⟩
  have q := by_a n
  rw [← hn, h] at q
  exact ⟨n.isLt, q⟩
theorem iTc_of {X M : zMm} {t : Nat} (h : iTxt X M t) : ∃ c, iTc X M t c := by
  obtain ⟨h1, h2, h3, h4⟩ := h
  refine ⟨fun i => Classical.choose (by_c (M 1 i)), h1, h2, h3, fun i hi => ?_⟩
  have q := Classical.choose_spec (by_c (M 1 i)) (h4 i hi).2
  rw [(h4 i hi).1]
  exact q
def zD (c : Nat) : Bool := Nat.ble 48 c && Nat.ble c 57
theorem zD_t {c : Nat} : zD c = true ↔ 48 ≤ c ∧ c ≤ 57 := by
  unfold zD
  rw [Bool.and_eq_true, Nat.ble_eq, Nat.ble_eq]
/-- how many figures stand in a row -/
def zrn (c : Nat → Nat) : Nat → Nat → Nat
  | 0, _ => 0
  | k + 1, s => if zD (c s) = true then zrn c k (s + 1) + 1 else 0
/-- the number after m figures -/
def zva (c : Nat → Nat) : Nat → Nat → Nat → Nat
  | 0, _, v => v
  | m + 1, s, v => zva c m (s + 1) (10 * v + c s - 48)
theorem zrn_le (c : Nat → Nat) : ∀ k s, zrn c k s ≤ k := by
  intro k
  induction k with
  | zero => intro s; exact Nat.le_refl _
  | succ k ih =>
    intro s
    unfold zrn
    split
    · have := ih (s + 1)
      omega
    · omega
theorem zrn_D (c : Nat → Nat) : ∀ k s i, i < zrn c k s → zD (c (s + i)) = true := by
  intro k
  induction k with
  | zero => intro s i h; exact absurd h (Nat.not_lt_zero _)
  | succ k ih =>
    intro s i h
    unfold zrn at h
    split at h
    · rename_i hd
      cases i with
      | zero => exact hd
      | succ i =>
        have := ih (s + 1) i (by omega)
        rw [show s + (i + 1) = s + 1 + i by omega]
        exact this
    · exact absurd h (Nat.not_lt_zero _)
theorem zrn_E (c : Nat → Nat) : ∀ k s, zrn c k s < k → zD (c (s + zrn c k s)) = false := by
  intro k
  induction k with
  | zero => intro s h; exact absurd h (Nat.not_lt_zero _)
  | succ k ih =>
    intro s h
    cases hd : zD (c s) with
    | true =>
      have e : zrn c (k + 1) s = zrn c k (s + 1) + 1 := by rw [zrn, if_pos hd]
      rw [e] at h ⊢
      rw [show s + (zrn c k (s + 1) + 1) = s + 1 + zrn c k (s + 1) by omega]
      exact ih (s + 1) (by omega)
    | false =>
      have e : zrn c (k + 1) s = 0 := by rw [zrn, if_neg (by rw [hd]; decide)]
      rw [e]
      exact hd
theorem zva_b (c : Nat → Nat) : ∀ m s v, (∀ i, i < m → zD (c (s + i)) = true) → zva c m s v + 1 ≤ 10 ^ m * (v + 1) := by
  intro m
  induction m with
  | zero => intro s v _; simp [zva]
  | succ m ih =>
    intro s v h
    have h0 := zD_t.1 (h 0 (by omega))
    have h1 := ih (s + 1) (10 * v + c s - 48) (fun i hi => by rw [show s + 1 + i = s + (i + 1) by omega]; exact h (i + 1) (by omega))
    unfold zva
    rw [Nat.add_zero] at h0
    refine Nat.le_trans h1 ?_
    rw [Nat.pow_succ, Nat.mul_assoc]
    exact Nat.mul_le_mul_left _ (by omega)
theorem bAt {X M : zMm} {t : Nat} {c : Nat → Nat} (h : iTc X M t c) {i : Nat} (hi : i < t) : f_X7_byteAt X (nI i) = some (nI (c i)) := by
  obtain ⟨h1, h2, h3, h4⟩ := h
  unfold f_X7_byteAt
  rw [if_neg (by rw [n_0, n_lt (by omega) (by omega)]; omega), h2, if_neg (by rw [n_le (by omega) (by omega)]; omega), pl_k rfl (by omega) (by omega), (h4 i hi).2.1]
theorem bEn {X M : zMm} {t : Nat} {c : Nat → Nat} (h : iTc X M t c) {i : Nat} (hi : t ≤ i) (hj : i < 1000) : f_X7_byteAt X (nI i) = some (-1) := by
  obtain ⟨h1, h2, h3, h4⟩ := h
  unfold f_X7_byteAt
  rw [if_neg (by rw [n_0, n_lt (by omega) (by omega)]; omega), h2, if_pos (by rw [n_le (by omega) (by omega)]; exact hi)]
theorem numX {X M : zMm} {t : Nat} {c : Nat → Nat} (h : iTc X M t c) {s : Nat} (hs : s ≤ t) (q : Int32) : ∀ k j n v, j + k = 3 → s + j ≤ t → k < n → L_X7_readNumber_5 X (nI s) q n (nI (s + j)) (nI v) = some (nI (s + j + min k (zrn c (t - (s + j)) (s + j))), nI (zva c (min k (zrn c (t - (s + j)) (s + j))) (s + j) v)) := by
  have ht := h.1
  intro k
  induction k with
  | zero =>
    intro j n v hj hst hn
    obtain ⟨n, rfl⟩ : ∃ n', n = n' + 1 := ⟨n - 1, by omega⟩
    rw [L_X7_readNumber_5, n_3, n_add, if_pos (by rw [n_le (by omega) (by omega)]; omega), Nat.zero_min]
    rfl
  | succ k ih =>
    intro j n v hj hst hn
    obtain ⟨n, rfl⟩ : ∃ n', n = n' + 1 := ⟨n - 1, by omega⟩
    rw [L_X7_readNumber_5, n_3, n_add, if_neg (by rw [n_le (by omega) (by omega)]; omega)]
    by_cases he : s + j < t
    · have hc := (h.2.2.2 (s + j) he).1
      rw [pb1 (bAt h he)]
      obtain ⟨d, hd⟩ : ∃ d, t - (s + j) = d + 1 := ⟨t - (s + j) - 1, by omega⟩
      cases hD : zD (c (s + j)) with
      | true =>
        have hz := zD_t.1 hD
        have e : zrn c (t - (s + j)) (s + j) = zrn c (t - (s + (j + 1))) (s + (j + 1)) + 1 := by
          rw [hd, zrn, if_pos hD, show t - (s + (j + 1)) = d by omega]
          rfl
        have ev : nI 10 * nI v + nI (c (s + j)) - nI 48 = nI (10 * v + c (s + j) - 48) := by
          rw [n_mul, n_add, ← iI_n, ← iI_n, iI_sub, ← iI_n]
          congr 1
          omega
        rw [if_neg (by rw [n_48, n_lt (by omega) (by omega)]; omega), pb1 (bAt h he), if_neg (by rw [n_57, n_lt (by omega) (by omega)]; omega), pb1 (bAt h he), pv, pv, n_10, n_48, ev, n_1, n_add, Nat.add_assoc, ih (j + 1) n _ (by omega) (by omega) (by omega), e, Nat.add_min_add_right, zva]
        rw [show s + j + (min k (zrn c (t - (s + (j + 1))) (s + (j + 1))) + 1) = s + (j + 1) + min k (zrn c (t - (s + (j + 1))) (s + (j + 1))) by omega]
        rfl
      | false =>
        have hz : ¬ (48 ≤ c (s + j) ∧ c (s + j) ≤ 57) := fun q => by
          rw [zD_t.2 q] at hD
          exact absurd hD (by decide)
        have e : zrn c (t - (s + j)) (s + j) = 0 := by rw [hd, zrn, if_neg (by rw [hD]; decide)]
        rw [e, Nat.min_zero]
        by_cases c1 : c (s + j) < 48
        · rw [if_pos (by rw [n_48, n_lt (by omega) (by omega)]; exact c1)]
          rfl
        · rw [if_neg (by rw [n_48, n_lt (by omega) (by omega)]; exact c1), pb1 (bAt h he), if_pos (by rw [n_57, n_lt (by omega) (by omega)]; omega)]
          rfl
    · have e : zrn c (t - (s + j)) (s + j) = 0 := by rw [show t - (s + j) = 0 by omega]; rfl
      rw [pb1 (bEn h (by omega) (by omega)), if_pos (by decide), e, Nat.min_zero]
      rfl
theorem vAt {X M : zMm} {t : Nat} {c : Nat → Nat} (h : iTc X M t c) {i : Nat} (hi : i < t) {n : Nat} (hn : n < 128) : M 1 i = nI n ↔ c i = n := by
  obtain ⟨a, b, d, e⟩ := h.2.2.2 i hi
  constructor
  · intro q
    by_cases w : c i < 128
    · exact (n_eq (by omega) (by omega)).1 ((d w).symm.trans q)
    · have := e (by omega)
      rw [q, nT (by omega)] at this
      omega
  · intro q
    rw [d (by omega), q]
theorem iTc_fr {X M X2 M2 : zMm} {t : Nat} {c : Nat → Nat} (h : iTc X M t c) (h0 : X2 0 = X 0) (h2 : X2 2 = X 2) (h3 : M2 0 = M 0) (h4 : M2 1 = M 1) : iTc X2 M2 t c := by
  unfold iTc at h ⊢
  rw [h0, h2, h3, h4]
  exact h
theorem numM {X : zMm} {t : Nat} {c : Nat → Nat} : ∀ k s n v j M, iTc X M t c → s + k = t → M 2 0 = nI s → k < n → j ≤ s → ∃ M2, L_X9_number_4 n (nI v) (nI j) M = some (nI (zva c (min (3 - j) (zrn c k s)) s v), nI (j + zrn c k s), M2) ∧ M2 2 0 = nI (s + zrn c k s) ∧ ∀ i, i ≠ 2 → M2 i = M i := by
  intro k
  induction k with
  | zero =>
    intro s n v j M h hs hm hn hj
    have ht := h.1
    obtain ⟨n, rfl⟩ : ∃ n', n = n' + 1 := ⟨n - 1, by omega⟩
    have e : zrn c 0 s = 0 := rfl
    rw [L_X9_number_4, h.2.2.1, hm, if_pos (by rw [n_le (by omega) (by omega)]; omega), e, Nat.min_zero]
    exact ⟨M, rfl, hm, fun _ _ => rfl⟩
  | succ k ih =>
    intro s n v j M h hs hm hn hj
    have ht := h.1
    obtain ⟨n, rfl⟩ : ∃ n', n = n' + 1 := ⟨n - 1, by omega⟩
    obtain ⟨a, b, d, e⟩ := h.2.2.2 s (by omega)
    have t48 : (48 : Int64).toInt = 48 := rfl
    have t57 : (57 : Int64).toInt = 57 := rfl
    rw [L_X9_number_4, h.2.2.1, hm, if_neg (by rw [n_le (by omega) (by omega)]; omega), pl_k rfl (by omega) (by omega)]
    cases hD : zD (c s) with
    | true =>
      have hz := zD_t.1 hD
      have er : zrn c (k + 1) s = zrn c k (s + 1) + 1 := by rw [zrn, if_pos hD]
      have ev : nI 10 * nI v + nI (c s) - nI 48 = nI (10 * v + c s - 48) := by
        rw [n_mul, n_add, ← iI_n, ← iI_n, iI_sub, ← iI_n]
        congr 1
        omega
      rw [d (by omega), pb1 (in_y (tL _) t48 t57 (by rw [nT (by omega)]; omega) (by rw [nT (by omega)]; omega)), if_neg i10]
      have hT : iTc X (zs M 2 (fun _ => nI (s + 1))) t c := iTc_fr h rfl rfl (zs_n _ _ (by decide)) (zs_n _ _ (by decide))
      by_cases c3 : 3 ≤ j
      · rw [if_pos (by rw [n_3, n_le (by omega) (by omega)]; exact c3), pb1 rfl, pv, n_1, n_add, n_add, pv]
        obtain ⟨M2, g1, g2, g3⟩ := ih (s + 1) n v (j + 1) (zs M 2 (fun _ => nI (s + 1))) hT (by omega) (by rw [zs_s]) (by omega) (by omega)
        refine ⟨M2, ?_, ?_, fun i hi => by rw [g3 i hi, zs_n _ _ hi]⟩
        · rw [g1, er, show min (3 - (j + 1)) (zrn c k (s + 1)) = 0 by omega, show min (3 - j) (zrn c k (s + 1) + 1) = 0 by omega, show j + 1 + zrn c k (s + 1) = j + (zrn c k (s + 1) + 1) by omega]
          rfl
        · rw [g2, er, show s + 1 + zrn c k (s + 1) = s + (zrn c k (s + 1) + 1) by omega]
      · rw [if_neg (by rw [n_3, n_le (by omega) (by omega)]; exact c3), pl_k rfl (by omega) (by omega), d (by omega), pb1 rfl, pv, n_10, n_48, ev, n_1, n_add, n_add, pv]
        obtain ⟨M2, g1, g2, g3⟩ := ih (s + 1) n (10 * v + c s - 48) (j + 1) (zs M 2 (fun _ => nI (s + 1))) hT (by omega) (by rw [zs_s]) (by omega) (by omega)
        refine ⟨M2, ?_, ?_, fun i hi => by rw [g3 i hi, zs_n _ _ hi]⟩
        · rw [g1, er, show min (3 - j) (zrn c k (s + 1) + 1) = min (3 - (j + 1)) (zrn c k (s + 1)) + 1 by omega, show j + 1 + zrn c k (s + 1) = j + (zrn c k (s + 1) + 1) by omega]
          rfl
        · rw [g2, er, show s + 1 + zrn c k (s + 1) = s + (zrn c k (s + 1) + 1) by omega]
    | false =>
      have hz : ¬ (48 ≤ c s ∧ c s ≤ 57) := fun q => by
        rw [zD_t.2 q] at hD
        exact absurd hD (by decide)
      have er : zrn c (k + 1) s = 0 := by rw [zrn, if_neg (by rw [hD]; decide)]
      have hv : (M 1 s).toInt < 48 ∨ 57 < (M 1 s).toInt := by
        by_cases w : c s < 128
        · rw [d w, nT (by omega)]
          omega
        · have := e (by omega)
          omega
      rw [pb1 (in_n (tL _) t48 t57 hv), if_pos rfl, er, Nat.min_zero]
      exact ⟨M, rfl, hm, fun _ _ => rfl⟩
/-- one number, read on both sides -/
theorem num {X M : zMm} {t : Nat} {c : Nat → Nat} (h : iTc X M t c) {s q : Nat} (hs : s ≤ t) (hq : q < 3) (hm : M 2 0 = nI s) : ∃ r v e M2, f_X7_readNumber X (nI s) (nI q) = some (if r = 0 then (-1, X) else (nI (s + min 3 r), zs X 1 (upd (X 1) q (nI v)))) ∧ f_X9_number M = some (if 1 ≤ r ∧ r ≤ 3 then nI v else -1, M2) ∧ M2 2 0 = nI e ∧ e = s + r ∧ e ≤ t ∧ (∀ i, i ≠ 2 → M2 i = M i) ∧ v ≤ 999 ∧ (3 < r → 48 ≤ c (s + 3) ∧ c (s + 3) ≤ 57) := by
  have ht := h.1
  obtain ⟨M2, g1, g2, g3⟩ := numM (t - s) s 100000 0 0 M h (by omega) hm (by omega) (by omega)
  have g := numX h hs (nI q) 3 0 100000 0 rfl (by omega) (by omega)
  have hr := zrn_le c (t - s) s
  have hD := zrn_D c (t - s) s
  rw [Nat.add_zero] at g
  rw [Nat.sub_zero, Nat.zero_add] at g1
  have t1 : (1 : Int64).toInt = 1 := rfl
  have t3 : (3 : Int64).toInt = 3 := rfl
  refine ⟨zrn c (t - s) s, zva c (min 3 (zrn c (t - s) s)) s 0, _, M2, ?_, ?_, g2, rfl, by omega, g3, ?_, fun w => zD_t.1 (hD 3 w)⟩
  · unfold f_X7_readNumber
    rw [n_0, pb2 g]
    by_cases r0 : zrn c (t - s) s = 0
    · rw [if_pos r0, if_pos (by rw [r0]; rfl)]
    · rw [if_neg r0, if_neg (by rw [n_eq (by omega) (by omega)]; omega), if_neg (by rw [n_lt (by omega) (by omega)]; omega), n_3, if_pos (by rw [n_lt (by omega) (by omega)]; exact hq), pw_k rfl hq (by omega)]
  · unfold f_X9_number
    rw [n_0, pb3 g1]
    by_cases r0 : 1 ≤ zrn c (t - s) s ∧ zrn c (t - s) s ≤ 3
    · rw [pb1 (in_y (tL _) t1 t3 (by rw [nT (by omega)]; omega) (by rw [nT (by omega)]; omega)), if_neg (by decide), if_pos r0]
    · rw [pb1 (in_n (tL _) t1 t3 (by rw [nT (by omega)]; omega)), if_pos (by decide), if_neg r0]
  · have := zva_b c (min 3 (zrn c (t - s) s)) s 0 (fun i hi => hD i (by omega))
    have w : 10 ^ (min 3 (zrn c (t - s) s)) ≤ 10 ^ 3 := Nat.pow_le_pow_right (by omega) (by omega)
    omega
def upd' (u : Nat → Nat) (q v : Nat) : Nat → Nat := fun j => if j = q then v else u j
theorem upd'_s (u : Nat → Nat) (q v : Nat) : upd' u q v q = v := if_pos rfl
theorem upd'_n (u : Nat → Nat) {q j : Nat} (v : Nat) (h : j ≠ q) : upd' u q v j = u j := if_neg h
theorem it0 (v1 n : Int32) (f : Nat) (q : Int32) (M : zMm) : L_X9_isItem_38 v1 n (f + 1) 0 q M = some (0, q, M) := by
  rw [L_X9_isItem_38]
  by_cases h : n ≤ q
  · rw [if_pos h]
  · rw [if_neg h, if_pos rfl]
theorem nn1 {a : Nat} (h : a < 2147483648) : ¬ nI a = -1 := by
  rw [eqT, nT h, show (-1 : Int32).toInt = -1 from rfl]
  omega
theorem nn0 {a : Nat} (h : a < 2147483648) : ¬ nI a < 0 := by
  rw [n_0, n_lt h (by omega)]
  omega
theorem item {t n : Nat} {c : Nat → Nat} (hn : n ≤ 3) (l1 v1 : Int32) : ∀ (k q f f2 p p' : Nat) (X M : zMm) (u : Nat → Nat), iTc X M t c → q + k = n → k + 1 < f → k + 1 < f2 → M 2 0 = nI p' → p' ≤ t → (q = 0 ∧ 1 ≤ n ∧ p = p') ∨ (1 ≤ q ∧ p = p' + 1 ∧ p' < t ∧ c p' = if n ≤ q then 59 else 44) → (∀ j, j < q → X 1 j = nI (u j) ∧ M 22 j = nI (u j) ∧ u j ≤ 999) → ∃ r X2 x y M2 e, L_X7_readItem_13 l1 (nI n) f (nI p) (nI q) X = some (r, X2) ∧ L_X9_isItem_38 v1 (nI n) f2 1 (nI q) M = some (x, y, M2) ∧ (∀ j, j ≠ 1 → X2 j = X j) ∧ (∀ j, j ≠ 2 → j ≠ 22 → M2 j = M j) ∧ M2 2 0 = nI e ∧ e ≤ t + 1 ∧ ((r = -1 ∧ (x = 0 ∨ x = 1 ∧ ¬ (e < t ∧ c e = 59))) ∨ (x = 1 ∧ r = nI (e + 1) ∧ e < t ∧ p' ≤ e ∧ c e = 59 ∧ ∃ u : Nat → Nat, ∀ j, j < n → X2 1 j = nI (u j) ∧ M2 22 j = nI (u j) ∧ u j ≤ 999)) := by
  intro k
  induction k with
  | zero =>
    intro q f f2 p p' X M u h hk hf hf2 hm hp hs hu
    have ht := h.1
    obtain ⟨f, rfl⟩ : ∃ f', f = f' + 1 := ⟨f - 1, by omega⟩
    obtain ⟨f2, rfl⟩ : ∃ f', f2 = f' + 1 := ⟨f2 - 1, by omega⟩
    have hqn : q = n := by omega
    subst hqn
    rcases hs with ⟨a, b, _⟩ | ⟨a, b, d, e⟩
    · omega
    rw [if_pos (Nat.le_refl _)] at e
    refine ⟨nI p, X, 1, nI q, M, p', ?_, ?_, fun _ _ => rfl, fun _ _ _ => rfl, hm, by omega, Or.inr ⟨rfl, by rw [b], d, Nat.le_refl _, e, u, hu⟩⟩
    · rw [L_X7_readItem_13, if_pos (by rw [n_le (by omega) (by omega)]; omega)]
    · rw [L_X9_isItem_38, if_pos (by rw [n_le (by omega) (by omega)]; omega)]
  | succ k ih =>
    intro q f f2 p p' X M u h hk hf hf2 hm hp hs hu
    have ht := h.1
    obtain ⟨f, rfl⟩ : ∃ f', f = f' + 1 := ⟨f - 1, by omega⟩
    obtain ⟨f2, rfl⟩ : ∃ f', f2 = f' + 1 + 1 := ⟨f2 - 2, by omega⟩
    have hpt : p ≤ t := by omega
    have e1 : (if nI q = 0 then some (1 : Int32) else if M 0 0 ≤ M 2 0 then some (0 : Int32) else zl 300 (M 1) (M 2 0) (fun v16 => if v16 = 44 then some (1 : Int32) else some (0 : Int32))) = some 1 := by
      rcases hs with ⟨a, _, _⟩ | ⟨a, b, d, e⟩
      · rw [if_pos (by rw [a]; rfl)]
      · rw [if_neg (by rw [n_0, n_eq (by omega) (by omega)]; omega), hm, h.2.2.1, if_neg (by rw [n_le (by omega) (by omega)]; omega), pl_k rfl (by omega) (by omega), if_pos (by rw [n_44, vAt h d (by omega), e, if_neg (by omega)])]
    have e2 : ∃ y : Int32, (if nI q = 0 then some (0 : Int32) else some (1 : Int32)) = some y ∧ M 2 0 + y = nI p := by
      rcases hs with ⟨a, _, b⟩ | ⟨a, b, d, e⟩
      · exact ⟨0, by rw [if_pos (by rw [a]; rfl)], by rw [hm, n_0, n_add, b]; rfl⟩
      · exact ⟨1, by rw [if_neg (by rw [n_0, n_eq (by omega) (by omega)]; omega)], by rw [hm, n_1, n_add, b]⟩
    obtain ⟨y, e2, e3⟩ := e2
    have hT : iTc X (zs M 2 (fun _ => nI p)) t c := iTc_fr h rfl rfl (zs_n _ _ (by decide)) (zs_n _ _ (by decide))
    obtain ⟨r, v, e, M2, g1, g2, g3, g4, g5, g6, g7, g8⟩ := num hT (s := p) (q := q) hpt (by omega) (by rw [zs_s])
    have hle : ¬ nI n ≤ nI q := by rw [n_le (by omega) (by omega)]; omega
    rw [L_X7_readItem_13, if_neg hle, L_X9_isItem_38, if_neg hle, if_neg i10, pb1 e1, pb1 e2, pv, e3]
    have g2' := pb2 (k := fun (r28 : Int32) (M_29 : zMm) => some (M_29, r28)) g2
    rw [if_neg i10, g2', pb2 rfl, pw_k rfl (by omega : q < 3) (by omega), pl_k rfl (by omega : q < 3) (by omega), zs_s, up_s]
    have hM6 : ∀ j, j ≠ 2 → j ≠ 22 → ∀ g, zs M2 22 g j = M j := fun j a b g => by rw [zs_n _ _ b, g6 j a, zs_n _ _ a]
    by_cases hr : 1 ≤ r ∧ r ≤ 3
    · rw [if_neg (show ¬ r = 0 by omega)] at g1
      rw [if_pos hr, if_neg (nn0 (by omega)), pb1 rfl, pv, pb2 g1, if_neg (nn1 (by omega)), show p + min 3 r = e by omega]
      have hTX : iTc (zs X 1 (upd (X 1) q (nI v))) (zs M2 22 (upd (M2 22) q (nI v))) t c := iTc_fr h (zs_n _ _ (by decide)) (zs_n _ _ (by decide)) (hM6 0 (by decide) (by decide) _) (hM6 1 (by decide) (by decide) _)
      have hy : (if nI n ≤ nI q + 1 then some (59 : Int32) else some (44 : Int32)) = some (nI (if n ≤ q + 1 then 59 else 44)) := by
        rw [n_1, n_add]
        by_cases w : n ≤ q + 1
        · rw [if_pos (by rw [n_le (by omega) (by omega)]; exact w), if_pos w]
          rfl
        · rw [if_neg (by rw [n_le (by omega) (by omega)]; exact w), if_neg w]
          rfl
      have hyb : (if n ≤ q + 1 then 59 else 44) < 128 := by split <;> omega
      have hm2 : zs M2 22 (upd (M2 22) q (nI v)) 2 0 = nI e := by rw [zs_n _ _ (by decide), g3]
      by_cases hc : e < t ∧ c e = if n ≤ q + 1 then 59 else 44
      · have hu2 : ∀ j, j < q + 1 → zs X 1 (upd (X 1) q (nI v)) 1 j = nI (upd' u q v j) ∧ zs M2 22 (upd (M2 22) q (nI v)) 22 j = nI (upd' u q v j) ∧ upd' u q v j ≤ 999 := by
          intro j hj
          rw [zs_s, zs_s]
          by_cases w : j = q
          · rw [w, up_s, up_s, upd'_s]
            exact ⟨rfl, rfl, g7⟩
          · rw [up_n _ _ w, up_n _ _ w, upd'_n _ _ w, g6 22 (by decide), zs_n _ _ (by decide)]
            exact hu j (by omega)
        obtain ⟨r2, X3, x, y2, M3, e', i1, i2, i3, i4, i5, i6, i7⟩ := ih (q + 1) f (f2 + 1) (e + 1) e _ _ _ hTX (by omega) (by omega) (by omega) hm2 (by omega) (Or.inr ⟨by omega, rfl, hc.1, hc.2⟩) hu2
        rw [pb1 (bAt hTX hc.1), pb1 hy, if_pos (by rw [hc.2]), pv, pv, n_1, n_add, n_add]
        refine ⟨r2, X3, x, y2, M3, e', i1, i2, fun j hj => by rw [i3 j hj, zs_n _ _ hj], fun j h1 h2 => by rw [i4 j h1 h2, hM6 j h1 h2], i5, i6, ?_⟩
        rcases i7 with i7 | ⟨a, b, d, w, i7⟩
        · exact Or.inl i7
        · exact Or.inr ⟨a, b, d, by omega, i7⟩
      · have hcl : ∃ w, f_X7_byteAt (zs X 1 (upd (X 1) q (nI v))) (nI e) = some w ∧ ¬ w = nI (if n ≤ q + 1 then 59 else 44) := by
          by_cases he : e < t
          · have hcb := (h.2.2.2 e he).1
            exact ⟨_, bAt hTX he, by rw [n_eq (by omega) (by omega)]; exact fun w => hc ⟨he, w⟩⟩
          · exact ⟨-1, bEn hTX (by omega) (by omega), fun w => nn1 (show (if n ≤ q + 1 then 59 else 44) < 2147483648 by omega) w.symm⟩
        obtain ⟨w, w1, w2⟩ := hcl
        rw [pb1 w1, pb1 hy, if_neg w2, n_1, n_add]
        by_cases hl : n ≤ q + 1
        · rw [if_pos hl] at hc
          refine ⟨-1, _, 1, nI (q + 1), _, e, rfl, ?_, fun j hj => zs_n _ _ hj, fun j h1 h2 => hM6 j h1 h2 _, hm2, by omega, Or.inl ⟨rfl, Or.inr ⟨rfl, hc⟩⟩⟩
          rw [← n_1, L_X9_isItem_38, if_pos (by rw [n_le (by omega) (by omega)]; exact hl)]
        · rw [if_neg hl] at hc
          rw [← n_1, L_X9_isItem_38, if_neg (by rw [n_le (by omega) (by omega)]; exact hl), if_neg i10]
          have z1 : (if nI (q + 1) = 0 then some (1 : Int32) else if zs M2 22 (upd (M2 22) q (nI v)) 0 0 ≤ zs M2 22 (upd (M2 22) q (nI v)) 2 0 then some (0 : Int32) else zl 300 (zs M2 22 (upd (M2 22) q (nI v)) 1) (zs M2 22 (upd (M2 22) q (nI v)) 2 0) (fun v16 => if v16 = 44 then some (1 : Int32) else some (0 : Int32))) = some 0 := by
            rw [if_neg (by rw [n_0, n_eq (by omega) (by omega)]; omega), hm2, hTX.2.2.1]
            by_cases he : e < t
            · rw [if_neg (by rw [n_le (by omega) (by omega)]; omega), pl_k rfl (by omega) (by omega), if_neg (by rw [n_44, vAt hTX he (by omega)]; exact fun w => hc ⟨he, w⟩)]
            · rw [if_pos (by rw [n_le (by omega) (by omega)]; omega)]
          have z2 : (if nI (q + 1) = 0 then some (0 : Int32) else some (1 : Int32)) = some 1 := by
            rw [if_neg (by rw [n_0, n_eq (by omega) (by omega)]; omega)]
          obtain ⟨f2, rfl⟩ : ∃ f', f2 = f' + 1 := ⟨f2 - 1, by omega⟩
          rw [pb1 z1, pb1 z2, pv, if_pos rfl, pb2 rfl, pw_k rfl (by omega : q + 1 < 3) (by omega), pl_k rfl (by omega : q + 1 < 3) (by omega), zs_s, up_s, if_pos (by decide), pb1 rfl, pv, it0]
          refine ⟨-1, _, 0, _, _, e + 1, rfl, rfl, fun j hj => zs_n _ _ hj, fun j h1 h2 => ?_, ?_, by omega, Or.inl ⟨rfl, Or.inl rfl⟩⟩
          · rw [zs_n _ _ h2, zs_n _ _ h1, hM6 j h1 h2]
          · rw [zs_n _ _ (by decide), zs_s, hm2, n_1, n_add]
    · rw [if_neg hr, if_pos (show (-1 : Int32) < 0 by decide), pb1 rfl, pv, it0]
      have hm2 : zs M2 22 (upd (M2 22) q (-1)) 2 0 = nI e := by rw [zs_n _ _ (by decide), g3]
      by_cases r0 : r = 0
      · rw [if_pos r0] at g1
        rw [pb2 g1, if_pos rfl]
        exact ⟨-1, _, 0, _, _, e, rfl, rfl, fun j hj => rfl, fun j h1 h2 => hM6 j h1 h2 _, hm2, by omega, Or.inl ⟨rfl, Or.inl rfl⟩⟩
      · rw [if_neg r0] at g1
        rw [pb2 g1, if_neg (nn1 (by omega)), show p + min 3 r = p + 3 by omega]
        have hTX : iTc (zs X 1 (upd (X 1) q (nI v))) M t c := iTc_fr h (zs_n _ _ (by decide)) (zs_n _ _ (by decide)) rfl rfl
        have hd := g8 (by omega)
        have hy : ∃ w, (if nI n ≤ nI q + 1 then some (59 : Int32) else some (44 : Int32)) = some w ∧ ¬ nI (c (p + 3)) = w := by
          split
          · exact ⟨_, rfl, by rw [n_59, n_eq (by omega) (by omega)]; omega⟩
          · exact ⟨_, rfl, by rw [n_44, n_eq (by omega) (by omega)]; omega⟩
        obtain ⟨w, w1, w2⟩ := hy
        rw [pb1 (bAt hTX (by omega)), pb1 w1, if_neg w2]
        exact ⟨-1, _, 0, _, _, e, rfl, rfl, fun j hj => zs_n _ _ hj, fun j h1 h2 => hM6 j h1 h2 _, hm2, by omega, Or.inl ⟨rfl, Or.inl rfl⟩⟩
