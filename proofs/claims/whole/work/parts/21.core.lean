/-! what is laid, in plain numbers: pl 0 inches, 1 tailorOf, 2 lengthOf, 3 bribeFor, 4 firstOf, 5 secondOf, 6 tailors, 7 parts, 8 seams, 9 widest gap, 10 boy, 11 bolt -/
abbrev zN : Type := Nat → Nat → Nat
def iPlX (P : zMm) (pl : zN) : Prop := (P 6 0 = nI (pl 6 0) ∧ P 7 0 = nI (pl 7 0) ∧ P 8 0 = nI (pl 8 0) ∧ P 9 0 = nI (pl 9 0) ∧ P 10 0 = nI (pl 10 0) ∧ P 11 0 = nI (pl 11 0)) ∧ (∀ i, i < pl 6 0 → P 0 i = nI (pl 0 i)) ∧ (∀ i, i < pl 7 0 → P 1 i = nI (pl 1 i) ∧ P 2 i = nI (pl 2 i) ∧ P 3 i = nI (pl 3 i)) ∧ (∀ i, i < pl 8 0 → P 4 i = nI (pl 4 i) ∧ P 5 i = nI (pl 5 i))
def iPlM (M : zMm) (pl : zN) : Prop := (M 4 0 = nI (pl 6 0) ∧ M 6 0 = nI (pl 7 0) ∧ M 8 0 = nI (pl 8 0) ∧ M 3 0 = nI (pl 9 0) ∧ M 3 1 = nI (pl 10 0) ∧ M 3 2 = nI (pl 11 0)) ∧ (∀ i, i < pl 6 0 → M 5 i = nI (pl 0 i)) ∧ (∀ i, i < pl 7 0 → M 7 (3 * i) = nI (pl 1 i) ∧ M 7 (3 * i + 1) = nI (pl 2 i) ∧ M 7 (3 * i + 2) = nI (pl 3 i)) ∧ (∀ i, i < pl 8 0 → M 9 (2 * i) = nI (pl 4 i) ∧ M 9 (2 * i + 1) = nI (pl 5 i))
def iWF (pl : zN) : Prop := (pl 6 0 ≤ 6 ∧ pl 7 0 ≤ 7 ∧ pl 8 0 ≤ 10 ∧ pl 9 0 ≤ 20 ∧ pl 10 0 ≤ 999 ∧ 1 ≤ pl 11 0 ∧ pl 11 0 ≤ 999) ∧ (∀ i, i < pl 6 0 → 80 ≤ pl 0 i ∧ pl 0 i ≤ 120) ∧ (∀ i, i < pl 7 0 → pl 1 i < pl 6 0 ∧ 10 ≤ pl 2 i ∧ pl 2 i ≤ 199 ∧ pl 3 i ≤ 99) ∧ (∀ i, i < pl 8 0 → pl 4 i < pl 7 0 ∧ pl 5 i < pl 7 0 ∧ ¬ pl 4 i = pl 5 i)
/-! the order -/
def iOrd (f : Nat → Int32) (o : Nat → Nat) : Prop := (∀ k, k < 7 → f k = nI (o k) ∧ o k < 7) ∧ ∀ j k, j < 7 → k < 7 → o j = o k → j = k
def zfind (o : Nat → Nat) (i : Nat) : Nat → Nat → Nat
  | 0, k => k
  | n + 1, k => if o k = i then k else zfind o i n (k + 1)
def zpos (o : Nat → Nat) (i : Nat) : Nat := zfind o i 7 0
theorem zfind_le (o : Nat → Nat) (i : Nat) : ∀ n k, k ≤ zfind o i n k ∧ zfind o i n k ≤ k + n
  | 0, k => ⟨Nat.le_refl _, Nat.le_refl _⟩
  | n + 1, k => by
    rw [zfind]
    split
    · omega
    · have := zfind_le o i n (k + 1); omega
theorem zfind_at (o : Nat → Nat) (i : Nat) : ∀ n k j, k ≤ j → j < k + n → o j = i → zfind o i n k < k + n ∧ o (zfind o i n k) = i
  | 0, k, j, h1, h2, _ => by omega
  | n + 1, k, j, h1, h2, h3 => by
    rw [zfind]
    split
    · next q => exact ⟨by omega, q⟩
    · next q =>
      have hj : k + 1 ≤ j := by
        rcases Nat.lt_or_ge k j with h | h
        · omega
        · have : j = k := by omega
          subst this
          exact absurd h3 q
      have := zfind_at o i n (k + 1) j hj (by omega) h3
      exact ⟨by omega, this.2⟩
theorem zholes : ∀ (m n : Nat) (f : Nat → Nat), (∀ i, i < n → f i < m) → (∀ i j, i < j → j < n → f i ≠ f j) → n ≤ m
  | 0, n, f, h, _ => by
    rcases Nat.eq_zero_or_pos n with q | q
    · omega
    · exact absurd (h 0 q) (Nat.not_lt_zero _)
  | m + 1, 0, f, _, _ => Nat.zero_le _
  | m + 1, n + 1, f, h, h2 => by
    have ih := zholes m n (fun i => if f i < f n then f i else f i - 1) (fun i hi => by
        have a := h i (by omega); have b := h n (by omega); have c := h2 i n hi (by omega)
        show (if f i < f n then f i else f i - 1) < m
        split <;> omega) (fun i j hij hj => by
        have a := h i (by omega); have b := h n (by omega); have c := h2 i n (by omega) (by omega)
        have d := h2 j n hj (by omega); have e := h2 i j hij (by omega)
        show ¬ (if f i < f n then f i else f i - 1) = (if f j < f n then f j else f j - 1)
        split <;> split <;> omega)
    omega
theorem ord_onto {f : Nat → Int32} {o : Nat → Nat} (h : iOrd f o) {i : Nat} (hi : i < 7) : ∃ k, k < 7 ∧ o k = i := by
  refine Classical.byContradiction fun hno => ?_
  have hne : ∀ k, k < 7 → o k ≠ i := fun k hk e => hno ⟨k, hk, e⟩
  have := zholes 7 8 (fun k => if k < 7 then o k else i) (fun k hk => by
    show (if k < 7 then o k else i) < 7
    split
    · next q => exact (h.1 k q).2
    · exact hi) (fun a b hab hb => by
    show (if a < 7 then o a else i) ≠ (if b < 7 then o b else i)
    rw [if_pos (by omega : a < 7)]
    split
    · next q => exact fun e => by have := h.2 a b (by omega) q e; omega
    · exact hne a (by omega))
  omega
theorem pos_ok {f : Nat → Int32} {o : Nat → Nat} (h : iOrd f o) {i : Nat} (hi : i < 7) : zpos o i < 7 ∧ o (zpos o i) = i := by
  obtain ⟨k, h1, h2⟩ := ord_onto h hi
  have := zfind_at o i 7 0 k (Nat.zero_le _) (by omega) h2
  exact ⟨by have := this.1; unfold zpos; omega, this.2⟩
theorem placeX_loop {P : zMm} {o : Nat → Nat} (h : iOrd (P 0) o) {i : Nat} (hi : i < 7) : ∀ m k n, k + m = 7 → m < n → (∃ j, k ≤ j ∧ j < 7 ∧ o j = i) → L_X1_placeOf_2 P (nI i) n (nI k) = some (nI (zfind o i m k)) := by
  intro m
  induction m with
  | zero =>
    intro k n hk hn hj
    obtain ⟨j, h1, h2, -⟩ := hj
    omega
  | succ m ih =>
    intro k n hk hn hj
    obtain ⟨n, rfl⟩ : ∃ n', n = n' + 1 := ⟨n - 1, by omega⟩
    have hk7 := h.1 k (by omega)
    rw [L_X1_placeOf_2, if_neg (by rw [n_7, n_le (by omega) (by omega)]; omega), pl_k rfl (by omega) (by omega), hk7.1, zfind]
    by_cases c : o k = i
    · rw [if_pos (by rw [c]), if_pos c]
    · rw [if_neg (by rw [n_eq (by omega) (by omega)]; exact c), if_neg c, pv, n_1, n_add]
      refine ih (k + 1) n (by omega) (by omega) ?_
      obtain ⟨j, h1, h2, h3⟩ := hj
      refine ⟨j, ?_, h2, h3⟩
      rcases Nat.lt_or_ge k j with q | q
      · omega
      · have : j = k := by omega
        subst this
        exact absurd h3 c
theorem placeX {P : zMm} {o : Nat → Nat} (h : iOrd (P 0) o) {i : Nat} (hi : i < 7) : f_X1_placeOf P (nI i) = some (nI (zpos o i)) := by
  obtain ⟨k, h1, h2⟩ := ord_onto h hi
  exact placeX_loop h hi 7 0 100000 rfl (by omega) ⟨k, Nat.zero_le _, h1, h2⟩
theorem placeM_loop {M : zMm} {o : Nat → Nat} (h : iOrd (M 10) o) {i : Nat} (hi : i < 7) : ∀ m k n, k + m = 7 → m < n → (∃ j, k ≤ j ∧ j < 7 ∧ o j = i) → L_X9_placeOf_2 M (nI i) n (nI k) = some (nI (zfind o i m k)) := by
  intro m
  induction m with
  | zero =>
    intro k n hk hn hj
    obtain ⟨j, h1, h2, -⟩ := hj
    omega
  | succ m ih =>
    intro k n hk hn hj
    obtain ⟨n, rfl⟩ : ∃ n', n = n' + 1 := ⟨n - 1, by omega⟩
    have hk7 := h.1 k (by omega)
    rw [L_X9_placeOf_2, pl_k rfl (by omega) (by omega), hk7.1, zfind]
    by_cases c : o k = i
    · rw [if_pos (by rw [c]), if_pos c]
    · rw [if_neg (by rw [n_eq (by omega) (by omega)]; exact c), if_neg c, pv, n_1, n_add]
      refine ih (k + 1) n (by omega) (by omega) ?_
      obtain ⟨j, h1, h2, h3⟩ := hj
      refine ⟨j, ?_, h2, h3⟩
      rcases Nat.lt_or_ge k j with q | q
      · omega
      · have : j = k := by omega
        subst this
        exact absurd h3 c
theorem placeM {M : zMm} {o : Nat → Nat} (h : iOrd (M 10) o) {i : Nat} (hi : i < 7) : f_X9_placeOf M (nI i) = some (nI (zpos o i)) := by
  obtain ⟨k, h1, h2⟩ := ord_onto h hi
  unfold f_X9_placeOf
  have e : L_X9_placeOf_2 M (nI i) 100000 0 = some (nI (zpos o i)) := placeM_loop h hi 7 0 100000 rfl (by omega) ⟨k, Nat.zero_le _, h1, h2⟩
  rw [pb1 e]
/-! slips -/
def zx0 (p k z : Nat) : Nat := 7919 * z + 6151 * p + 3571 * k + 1
def zSL (p k z : Nat) : Int := ((zx0 p k z * zx0 p k z % 65521 % (2 * min k 5 + 1) : Nat) : Int) - ((min k 5 : Nat) : Int)
theorem zSL_b (p k z : Nat) : -5 ≤ zSL p k z ∧ zSL p k z ≤ 5 := by
  have h1 : min k 5 ≤ 5 := Nat.min_le_right _ _
  have h2 : zx0 p k z * zx0 p k z % 65521 % (2 * min k 5 + 1) < 2 * min k 5 + 1 := Nat.mod_lt _ (by omega)
  unfold zSL
  omega
theorem slip_core {p k z : Nat} (hp : p < 7) (hk : k < 7) (hz : z < 1000) : ((zrL (zrL ((((((7919 : Int64) * ((nI z).toInt64)) + ((6151 : Int64) * ((nI p).toInt64))) + ((3571 : Int64) * ((nI k).toInt64))) + 1) * (((((7919 : Int64) * ((nI z).toInt64)) + ((6151 : Int64) * ((nI p).toInt64))) + ((3571 : Int64) * ((nI k).toInt64))) + 1)) (65521 : Int64)) ((((2 : Int32) * nI (min k 5)) + 1).toInt64)).toInt32) - nI (min k 5) = iI (zSL p k z) := by
  have e1 : ((((7919 : Int64) * ((nI z).toInt64)) + ((6151 : Int64) * ((nI p).toInt64))) + ((3571 : Int64) * ((nI k).toInt64))) + 1 = lN (zx0 p k z) := by
    rw [nI_l (by omega), nI_l (by omega), nI_l (by omega), show (7919 : Int64) = lN 7919 from rfl, show (6151 : Int64) = lN 6151 from rfl, show (3571 : Int64) = lN 3571 from rfl, show (1 : Int64) = lN 1 from rfl, lN_mul, lN_mul, lN_mul, lN_add, lN_add, lN_add]
    rfl
  have hx : zx0 p k z < 8000000 := by unfold zx0; omega
  have hxx : zx0 p k z * zx0 p k z < 8000000 * 8000000 := Nat.mul_lt_mul'' hx hx
  have hm : min k 5 ≤ 5 := Nat.min_le_right _ _
  have e2 : ((2 : Int32) * nI (min k 5) + 1).toInt64 = lN (2 * min k 5 + 1) := by
    rw [n_2, n_mul, n_1, n_add, nI_l (by omega)]
  rw [e1, lN_mul, e2]
  have e3 : zrL (lN (zx0 p k z * zx0 p k z)) (65521 : Int64) = lN (zx0 p k z * zx0 p k z % 65521) := pk_lRem (b := 65521) (by omega) (by omega) (by omega)
  rw [e3]
  have e4 : zrL (lN (zx0 p k z * zx0 p k z % 65521)) (lN (2 * min k 5 + 1)) = lN (zx0 p k z * zx0 p k z % 65521 % (2 * min k 5 + 1)) := pk_lRem (by omega) (by omega) (by omega)
  rw [e4, lN_i, ← iI_n, ← iI_n, iI_sub]
  rfl
theorem slip_ne {k : Nat} : ¬ ((2 : Int32) * nI (min k 5) + 1).toInt64 = 0 := by
  have hm : min k 5 ≤ 5 := Nat.min_le_right _ _
  have e2 : ((2 : Int32) * nI (min k 5) + 1).toInt64 = lN (2 * min k 5 + 1) := by
    rw [n_2, n_mul, n_1, n_add, nI_l (by omega)]
  rw [e2, show (0 : Int64) = lN 0 from rfl, lN_eq (by omega) (by omega)]
  omega
theorem slipX {p k z : Nat} (hp : p < 7) (hk : k < 7) (hz : z < 1000) : f_X5_slip (nI p) (nI k) (nI z) = some (iI (zSL p k z)) := by
  unfold f_X5_slip
  rw [pv, pv, pv]
  have e1 : (if (0 : Int32) < (if (5 : Int32) < nI k then (5 : Int32) else nI k) then (if (5 : Int32) < nI k then (5 : Int32) else nI k) else (0 : Int32)) = nI (min k 5) := by
    rw [n_5, n_0]
    by_cases c : 5 < k
    · rw [if_pos ((n_lt (by omega) (by omega)).mpr c), if_pos ((n_lt (by omega) (by omega)).mpr (by omega)), Nat.min_eq_right (by omega)]
    · rw [if_neg (fun h => c ((n_lt (by omega) (by omega)).mp h)), Nat.min_eq_left (by omega)]
      by_cases c2 : 0 < k
      · rw [if_pos ((n_lt (by omega) (by omega)).mpr c2)]
      · rw [if_neg (fun h => c2 ((n_lt (by omega) (by omega)).mp h)), show k = 0 by omega]
  rw [e1]
  unfold zdL
  rw [if_neg slip_ne, slip_core hp hk hz]
theorem slipM {p k z : Nat} (hp : p < 7) (hk : k < 7) (hz : z < 1000) : f_X9_slip (nI z) (nI p) (nI k) = some (iI (zSL p k z)) := by
  unfold f_X9_slip
  have e1 : (if (5 : Int32) ≤ nI k then some (5 : Int32) else some (nI k)) = some (nI (min k 5)) := by
    rw [n_5]
    by_cases c : 5 ≤ k
    · rw [if_pos ((n_le (by omega) (by omega)).mpr c), Nat.min_eq_right (by omega)]
    · rw [if_neg (fun h => c ((n_le (by omega) (by omega)).mp h)), Nat.min_eq_left (by omega)]
  rw [pb1 e1, pv]
  unfold zdL
  rw [if_neg slip_ne, slip_core hp hk hz]
