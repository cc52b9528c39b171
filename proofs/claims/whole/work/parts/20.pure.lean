/-! plain numbers behind the machine's -/
def iI (z : Int) : Int32 := Int32.ofInt z
theorem li (n : Nat) : (OfNat.ofNat n : Int32) = nI n := rfl
theorem iI_n (n : Nat) : iI (n : Int) = nI n := Int32.ofInt_eq_ofNat
theorem iI_add (a b : Int) : iI a + iI b = iI (a + b) := (Int32.ofInt_add a b).symm
theorem iI_sub (a b : Int) : iI a - iI b = iI (a - b) := (Int32.ofInt_sub a b).symm
theorem iI_mul (a b : Int) : iI a * iI b = iI (a * b) := (Int32.ofInt_mul a b).symm
theorem iI_neg (a : Int) : -iI a = iI (-a) := (Int32.ofInt_neg a).symm
theorem iI_t {z : Int} (h1 : -2147483648 ≤ z) (h2 : z < 2147483648) : (iI z).toInt = z := Int32.toInt_ofInt_of_le h1 h2
theorem iI_of (x : Int32) : iI x.toInt = x := Int32.ofInt_toInt x
theorem rng (x : Int32) : -2147483648 ≤ x.toInt ∧ x.toInt < 2147483648 := ⟨Int32.le_toInt x, Int32.toInt_lt x⟩
theorem nT {n : Nat} (h : n < 2147483648) : (nI n).toInt = (n : Int) := nI_toInt (by omega)
theorem leT {x y : Int32} : x ≤ y ↔ x.toInt ≤ y.toInt := Int32.le_iff_toInt_le
theorem ltT {x y : Int32} : x < y ↔ x.toInt < y.toInt := Int32.lt_iff_toInt_lt
theorem eqT {x y : Int32} : x = y ↔ x.toInt = y.toInt := Int32.toInt_inj.symm
theorem clT {x : Int32} {n : Nat} (h : x.toInt = (n : Int)) : x.toNatClampNeg = n := by
  show x.toInt.toNat = n
  rw [h]; rfl
theorem eqN {x : Int32} {n : Nat} (h : x.toInt = (n : Int)) : x = nI n := by
  have h2 := rng x
  rw [eqT, h, nT (by omega)]
theorem n_add (a b : Nat) : nI a + nI b = nI (a + b) := nI_add a b
theorem n_mul (a b : Nat) : nI a * nI b = nI (a * b) := pk_mul a b
theorem n_le {a b : Nat} (ha : a < 2147483648) (hb : b < 2147483648) : nI a ≤ nI b ↔ a ≤ b := nI_leI (by omega) (by omega)
theorem n_lt {a b : Nat} (ha : a < 2147483648) (hb : b < 2147483648) : nI a < nI b ↔ a < b := nI_ltI (by omega) (by omega)
theorem n_eq {a b : Nat} (ha : a < 2147483648) (hb : b < 2147483648) : nI a = nI b ↔ a = b := nI_eq (by omega) (by omega)
theorem n_0 : (0 : Int32) = nI 0 := rfl
theorem n_1 : (1 : Int32) = nI 1 := rfl
theorem n_2 : (2 : Int32) = nI 2 := rfl
theorem n_3 : (3 : Int32) = nI 3 := rfl
theorem n_4 : (4 : Int32) = nI 4 := rfl
theorem n_5 : (5 : Int32) = nI 5 := rfl
theorem n_6 : (6 : Int32) = nI 6 := rfl
theorem n_7 : (7 : Int32) = nI 7 := rfl
theorem n_8 : (8 : Int32) = nI 8 := rfl
theorem n_9 : (9 : Int32) = nI 9 := rfl
theorem n_10 : (10 : Int32) = nI 10 := rfl
theorem n_12 : (12 : Int32) = nI 12 := rfl
theorem n_14 : (14 : Int32) = nI 14 := rfl
theorem n_20 : (20 : Int32) = nI 20 := rfl
theorem n_21 : (21 : Int32) = nI 21 := rfl
theorem n_30 : (30 : Int32) = nI 30 := rfl
theorem n_40 : (40 : Int32) = nI 40 := rfl
theorem n_42 : (42 : Int32) = nI 42 := rfl
theorem n_48 : (48 : Int32) = nI 48 := rfl
theorem n_57 : (57 : Int32) = nI 57 := rfl
theorem n_59 : (59 : Int32) = nI 59 := rfl
theorem n_44 : (44 : Int32) = nI 44 := rfl
theorem n_80 : (80 : Int32) = nI 80 := rfl
theorem n_99 : (99 : Int32) = nI 99 := rfl
theorem n_100 : (100 : Int32) = nI 100 := rfl
theorem n_120 : (120 : Int32) = nI 120 := rfl
theorem n_154 : (154 : Int32) = nI 154 := rfl
theorem n_199 : (199 : Int32) = nI 199 := rfl
theorem n_299 : (299 : Int32) = nI 299 := rfl
theorem n_300 : (300 : Int32) = nI 300 := rfl
theorem n_1000 : (1000 : Int32) = nI 1000 := rfl
theorem n_103 : (103 : Int32) = nI 103 := rfl
theorem n_112 : (112 : Int32) = nI 112 := rfl
theorem n_115 : (115 : Int32) = nI 115 := rfl
theorem n_116 : (116 : Int32) = nI 116 := rfl
theorem n_122 : (122 : Int32) = nI 122 := rfl
/-! memory -/
theorem zs_s (X : zMm) (j : Nat) (g : Nat → Int32) : zs X j g j = g := by simp [zs]
theorem zs_n (X : zMm) {i j : Nat} (g : Nat → Int32) (h : i ≠ j) : zs X j g i = X i := by
  have : Nat.beq i j = false := by
    cases hb : Nat.beq i j with
    | false => rfl
    | true => exact absurd (Nat.eq_of_beq_eq_true hb) h
  simp [zs, this]
theorem zs_zs (X : zMm) (j : Nat) (a b : Nat → Int32) : zs (zs X j a) j b = zs X j b := by
  funext i
  by_cases h : i = j
  · subst h; rw [zs_s, zs_s]
  · rw [zs_n _ _ h, zs_n _ _ h, zs_n _ _ h]
theorem zs_self (X : zMm) (j : Nat) : zs X j (X j) = X := by
  funext i
  by_cases h : i = j
  · subst h; rw [zs_s]
  · rw [zs_n _ _ h]
theorem zs_comm (X : zMm) {i j : Nat} (a b : Nat → Int32) (h : i ≠ j) : zs (zs X i a) j b = zs (zs X j b) i a := by
  funext k
  by_cases h1 : k = i
  · subst h1; rw [zs_n _ _ h, zs_s, zs_s]
  · rw [zs_n _ a h1]
    by_cases h2 : k = j
    · subst h2; rw [zs_s, zs_s]
    · rw [zs_n _ _ h2, zs_n _ _ h2, zs_n _ _ h1]
theorem up_s (f : Nat → Int32) (k : Nat) (x : Int32) : upd f k x k = x := by simp [upd]
theorem up_n (f : Nat → Int32) {k j : Nat} (x : Int32) (h : j ≠ k) : upd f k x j = f j := by simp [upd, h]
theorem zp_in (X : zMm) {b n i : Nat} (P : zMm) (h : i < n) : zp X b n P (b + i) = P i := by
  have h1 : Nat.ble b (b + i) = true := Nat.ble_eq_true_of_le (by omega)
  have h2 : Nat.blt (b + i) (b + n) = true := Nat.ble_eq_true_of_le (by omega)
  unfold zp
  rw [h1, h2]
  show P (b + i - b) = P i
  rw [show b + i - b = i by omega]
/-! single steps -/
theorem pl_k {α : Type} {n k : Nat} {f : Nat → Int32} {i : Int32} {K : Int32 → Option α} (hi : i = nI k) (hk : k < n) (hn : n < 2147483648) : zl n f i K = K (f k) := by
  subst hi
  unfold zl
  have h := nI_in hk (by omega : n < 2 ^ 31)
  rw [if_neg h, nI_clamp (by omega)]
theorem pw_k {α : Type} {n k j : Nat} {X : zMm} {i v : Int32} {K : zMm → Option α} (hi : i = nI k) (hk : k < n) (hn : n < 2147483648) : zw n X j i v K = K (zs X j (upd (X j) k v)) := by
  subst hi
  unfold zw
  have h := nI_in hk (by omega : n < 2 ^ 31)
  rw [if_neg h, nI_clamp (by omega)]
theorem pb1 {α β : Type} {o : Option β} {k : β → Option α} {a : β} (h : o = some a) : zb1 o k = k a := by subst h; rfl
theorem pb2 {α β γ : Type} {o : Option (β × γ)} {k : β → γ → Option α} {a : β} {b : γ} (h : o = some (a, b)) : zb2 o k = k a b := by subst h; rfl
theorem pb3 {α β γ δ : Type} {o : Option (β × γ × δ)} {k : β → γ → δ → Option α} {a : β} {b : γ} {c : δ} (h : o = some (a, b, c)) : zb3 o k = k a b c := by subst h; rfl
theorem pv {β α : Type} (x : β) (k : β → Option α) : zv x k = k x := rfl
theorem po1 {α : Type} (k : Option α) : zo 1 k = k := by unfold zo; rw [if_pos (by decide)]
theorem po0 {α : Type} (k : Option α) : zo 0 k = k := by unfold zo; rw [if_pos (by decide)]
theorem ix (a : Int32) {n : Nat} (hn : n < 2147483648) : (∃ i, i < n ∧ a = nI i) ∨ ¬ vp_in a n := by
  by_cases h : vp_in a n
  · obtain ⟨j, h1, h2⟩ := vp_in_of h (by omega)
    exact Or.inl ⟨j, h1, h2⟩
  · exact Or.inr h
theorem not_in {a : Int32} {n : Nat} (h : ¬ vp_in a n) : a.toInt < 0 ∨ (n : Int) ≤ a.toInt := by
  rw [vp_in_iff] at h
  omega
theorem in_eq {v L H : Int64} {a lo hi : Int} (hv : v.toInt = a) (hL : L.toInt = lo) (hH : H.toInt = hi) : f_X9_in v L H = some (if lo ≤ a ∧ a ≤ hi then 1 else 0) := by
  have e1 : lg_cmp v L < 0 ↔ a < lo := by
    unfold lg_cmp
    have h1 : (v > L) ↔ lo < a := by rw [← hv, ← hL]; exact Int64.lt_iff_toInt_lt
    have h2 : (v = L) ↔ a = lo := by rw [← hv, ← hL]; exact Int64.toInt_inj.symm
    by_cases c1 : lo < a
    · rw [if_pos (h1.mpr c1)]
      constructor
      · intro h; exact absurd h (by decide)
      · intro h; omega
    · rw [if_neg (fun h => c1 (h1.mp h))]
      by_cases c2 : a = lo
      · rw [if_pos (h2.mpr c2)]
        constructor
        · intro h; exact absurd h (by decide)
        · intro h; omega
      · rw [if_neg (fun h => c2 (h2.mp h))]
        constructor
        · intro _; omega
        · intro _; decide
  have e2 : 0 < lg_cmp v H ↔ hi < a := by
    unfold lg_cmp
    have h1 : (v > H) ↔ hi < a := by rw [← hv, ← hH]; exact Int64.lt_iff_toInt_lt
    have h2 : (v = H) ↔ a = hi := by rw [← hv, ← hH]; exact Int64.toInt_inj.symm
    by_cases c1 : hi < a
    · rw [if_pos (h1.mpr c1)]
      constructor
      · intro _; exact c1
      · intro _; decide
    · rw [if_neg (fun h => c1 (h1.mp h))]
      by_cases c2 : a = hi
      · rw [if_pos (h2.mpr c2)]
        constructor
        · intro h; exact absurd h (by decide)
        · intro h; omega
      · rw [if_neg (fun h => c2 (h2.mp h))]
        constructor
        · intro h; exact absurd h (by decide)
        · intro h; omega
  unfold f_X9_in
  by_cases c1 : a < lo
  · rw [if_pos (e1.mpr c1), if_neg (by omega)]
  · rw [if_neg (fun h => c1 (e1.mp h))]
    by_cases c2 : hi < a
    · rw [if_pos (e2.mpr c2), if_neg (by omega)]
    · rw [if_neg (fun h => c2 (e2.mp h)), if_pos (by omega)]
theorem tL (a : Int32) : a.toInt64.toInt = a.toInt := Int32.toInt_toInt64 a
theorem tL1 {n : Nat} (hn : n < 2147483648) : ((nI n - 1).toInt64).toInt = (n : Int) - 1 := by
  rw [tL, n_1, ← iI_n, ← iI_n, iI_sub, iI_t (by omega) (by omega)]
  rfl
