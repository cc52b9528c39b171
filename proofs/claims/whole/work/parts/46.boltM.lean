/-! the reference's next way -/
theorem bm_lt {l : List Nat} : ∀ k, (∀ j, j < k → oG l j < 7) → bm l k < 7
  | 0, _ => (by show 0 < 7; decide)
  | k + 1, h => by
    rw [bm]
    cases Nat.ble (oG l k) (bm l k) with
    | true => exact bm_lt k (fun j hj => h j (by omega))
    | false => exact h k (by omega)
theorem nb17 {n : Nat} {M : zMm} {l : List Nat} (hr : oRw n M l) (hn : n ≤ 7) (hb : ∀ k, k < n → oG l k < 7) {K : Nat} (hK : K ≤ n) : ∀ m j f, j + m = K → m < f → L_X9_nextBolts_17 M (nI K) f (nI (bm l j)) (nI j) = some (nI (bm l K), nI K) := by
  intro m
  induction m with
  | zero =>
    intro j f h1 h2
    obtain ⟨f, rfl⟩ : ∃ n', f = n' + 1 := ⟨f - 1, by omega⟩
    rw [L_X9_nextBolts_17, if_pos (by rw [n_le (by omega) (by omega)]; omega), show j = K by omega]
  | succ m ih =>
    intro j f h1 h2
    obtain ⟨f, rfl⟩ : ∃ n', f = n' + 1 := ⟨f - 1, by omega⟩
    have b1 := hb j (by omega)
    have b2 := bm_lt (l := l) j (fun i hi => hb i (by omega))
    have e : (if M 17 j ≤ nI (bm l j) then some (nI (bm l j)) else zl 7 (M 17) (nI j) (fun v9 => some v9)) = some (nI (bm l (j + 1))) := by
      rw [hr j (by omega), bm]
      by_cases c : oG l j ≤ bm l j
      · rw [if_pos ((n_le (by omega) (by omega)).mpr c), Nat.ble_eq_true_of_le c]
        rfl
      · have hc : Nat.ble (oG l j) (bm l j) = false := by
          cases q : Nat.ble (oG l j) (bm l j) with
          | false => rfl
          | true => exact absurd (Nat.le_of_ble_eq_true q) c
        rw [if_neg (fun h => c ((n_le (by omega) (by omega)).mp h)), pl_k rfl (by omega) (by omega), hr j (by omega), hc]
        rfl
    rw [L_X9_nextBolts_17, if_neg (by rw [n_le (by omega) (by omega)]; omega), pl_k rfl (by omega) (by omega), pb1 e, pv, n_1, n_add]
    exact ih (j + 1) f (by omega) (by omega)
theorem oRw_set {n : Nat} {M : zMm} {l : List Nat} (h : oRw n M l) (hl : l.length = n) {a v : Nat} (ha : a < n) : oRw n (zs M 17 (upd (M 17) a (nI v))) (l.set a v) := by
  intro k hk
  show upd (M 17) a (nI v) k = _
  rw [oG_set (by omega)]
  by_cases c : k = a
  · subst c; rw [up_s, if_pos rfl]
  · rw [up_n _ _ c, if_neg c]; exact h k hk
theorem nb9 {n : Nat} (hn : n ≤ 7) : ∀ k f l M, k < n → k < f → l.length = n → oRw n M l → (∀ k, k < n → oG l k < 7) → ∃ r M', L_X9_nextBolts_9 f (nI k) M = some (r, M') ∧ (∀ j, j ≠ 17 → M' j = M j) ∧ ((bX k l = none ∧ r = 0) ∨ ∃ l', bX k l = some l' ∧ r = 1 ∧ oRw n M' l') := by
  intro k
  induction k with
  | zero =>
    intro f l M h1 h2 hl hr hb
    obtain ⟨f, rfl⟩ : ∃ n', f = n' + 1 := ⟨f - 1, by omega⟩
    rw [L_X9_nextBolts_9, if_pos (by decide)]
    exact ⟨0, M, rfl, fun _ _ => rfl, Or.inl ⟨rfl, rfl⟩⟩
  | succ k ih =>
    intro f l M h1 h2 hl hr hb
    obtain ⟨f, rfl⟩ : ∃ n', f = n' + 1 := ⟨f - 1, by omega⟩
    have b1 := hb (k + 1) h1
    have b2 := bm_lt (l := l) (k + 1) (fun i hi => hb i (by omega))
    have e : L_X9_nextBolts_17 M (nI (k + 1)) 100000 0 0 = some (nI (bm l (k + 1)), nI (k + 1)) := nb17 hr hn hb (by omega : k + 1 ≤ n) (k + 1) 0 100000 (by omega) (by omega)
    rw [L_X9_nextBolts_9, if_neg (by rw [n_0, n_le (by omega) (by omega)]; omega), pb2 e, pl_k rfl (by omega) (by omega), hr (k + 1) h1, bX]
    by_cases c : oG l (k + 1) ≤ bm l (k + 1)
    · rw [if_neg (by rw [n_lt (by omega) (by omega)]; omega), pl_k rfl (by omega) (by omega), hr (k + 1) h1, pw_k rfl (by omega) (by omega), Nat.ble_eq_true_of_le c, n_1, n_add]
      exact ⟨_, _, rfl, fun j hj => zs_n _ _ hj, Or.inr ⟨_, rfl, rfl, oRw_set hr hl h1⟩⟩
    · have hc : Nat.ble (oG l (k + 1)) (bm l (k + 1)) = false := by
        cases q : Nat.ble (oG l (k + 1)) (bm l (k + 1)) with
        | false => rfl
        | true => exact absurd (Nat.le_of_ble_eq_true q) c
      rw [if_pos (by rw [n_lt (by omega) (by omega)]; omega), pw_k rfl (by omega) (by omega), pv, dec1, hc]
      obtain ⟨r, M', q1, q2, q3⟩ := ih f (l.set (k + 1) 0) (zs M 17 (upd (M 17) (k + 1) 0)) (by omega) (by omega) (by rw [List.length_set]; exact hl) (oRw_set hr hl h1) (fun j hj => by
        rw [oG_set (by omega)]
        split
        · omega
        · exact hb j hj)
      exact ⟨r, M', q1, fun j hj => by rw [q2 j hj, zs_n _ _ hj], q3⟩
theorem nextB {n : Nat} {M : zMm} {l : List Nat} (h6 : M 6 0 = nI n) (hr : oRw n M l) (h1 : 1 ≤ n) (hn : n ≤ 7) (hl : l.length = n) (hb : ∀ k, k < n → oG l k < 7) : ∃ r M', f_X9_nextBolts M = some (r, M') ∧ (∀ j, j ≠ 17 → M' j = M j) ∧ ((bX (n - 1) l = none ∧ r = 0) ∨ ∃ l', bX (n - 1) l = some l' ∧ r = 1 ∧ oRw n M' l') := by
  have e1 : nI n - 1 = nI (n - 1) := by
    rw [n_1, ← iI_n, ← iI_n, iI_sub, ← iI_n]; congr 1; omega
  unfold f_X9_nextBolts
  rw [h6, pv, e1]
  exact nb9 hn (n - 1) 100000 l M (by omega) (by omega) hl hr hb
/-! how many -/
theorem mn4 (a : Int32) {M : zMm} : ∀ m k f, k + m = 7 → m < f → L_X9_many_4 a f (nI k) (zs M 20 (zfill (fun _ => 0) (M 20) k)) = some (nI 7, zs M 20 (zfill (fun _ => 0) (M 20) 7)) := by
  intro m
  induction m with
  | zero =>
    intro k f h1 h2
    obtain ⟨f, rfl⟩ : ∃ n', f = n' + 1 := ⟨f - 1, by omega⟩
    rw [L_X9_many_4, if_pos (by rw [n_7, n_le (by omega) (by omega)]; omega), show k = 7 by omega]
  | succ m ih =>
    intro k f h1 h2
    obtain ⟨f, rfl⟩ : ∃ n', f = n' + 1 := ⟨f - 1, by omega⟩
    have s := zfill_s (fun _ => 0) (M 20) k
    rw [L_X9_many_4, if_neg (by rw [n_7, n_le (by omega) (by omega)]; omega), pw_k rfl (by omega) (by omega), zs_s, zs_zs, pv, n_1, n_add]
    have s : upd (zfill (fun _ => 0) (M 20) k) k 0 = zfill (fun _ => 0) (M 20) (k + 1) := s
    rw [s]
    exact ih (k + 1) f (by omega) (by omega)
theorem bc_le {ln : Nat → Nat} {C : Nat} {l : List Nat} {k : Nat} (h : ∀ j, j < k → oG l j < 7) : bc ln C k l ≤ 99 := by
  have := bMx_le h
  unfold bc
  cases bOK ln C l k with
  | true => show bMx l k ≤ 99; omega
  | false => exact Nat.le_refl _
theorem bc_s {ln : Nat → Nat} {C : Nat} {l : List Nat} {k : Nat} (hk : oG l k < 7) : bc ln C (k + 1) l = if bL ln l (oG l k) (k + 1) ≤ C then (if oG l k + 1 ≤ bc ln C k l then bc ln C k l else oG l k + 1) else 99 := by
  unfold bc
  rw [bOK, bMx]
  by_cases c : bL ln l (oG l k) (k + 1) ≤ C
  · rw [if_pos c, Nat.ble_eq_true_of_le c, Bool.and_true]
    cases bOK ln C l k with
    | true =>
      show max (bMx l k) (oG l k + 1) = if oG l k + 1 ≤ bMx l k then bMx l k else oG l k + 1
      split <;> omega
    | false =>
      show 99 = if oG l k + 1 ≤ 99 then 99 else oG l k + 1
      rw [if_pos (by omega)]
  · have hc : Nat.ble (bL ln l (oG l k) (k + 1)) C = false := by
      cases q : Nat.ble (bL ln l (oG l k) (k + 1)) C with
      | false => rfl
      | true => exact absurd (Nat.le_of_ble_eq_true q) c
    rw [if_neg c, hc, Bool.and_false]
    rfl
theorem mn25 {M : zMm} {ln : Nat → Nat} {C n : Nat} {l : List Nat} (h6 : M 6 0 = nI n) (hC : C ≤ 999) (hn : n ≤ 7) (h32 : M 3 2 = nI C) (hr : oRw n M l) (hb : ∀ k, k < n → oG l k < 7) (hln : ∀ i, i < 7 → ln i ≤ 299) (h19 : ∀ i, i < n → M 19 i = nI (ln i)) : ∀ m k f g, k + m = n → m < f → (∀ b, b < 7 → g b = nI (bL ln l b k)) → ∃ g', L_X9_many_25 f (nI (bc ln C k l)) (nI k) (zs M 20 g) = some (nI (bc ln C n l), nI n, zs M 20 g') := by
  intro m
  induction m with
  | zero =>
    intro k f g h1 h2 h3
    obtain ⟨f, rfl⟩ : ∃ n', f = n' + 1 := ⟨f - 1, by omega⟩
    have e6 : (zs M 20 g) 6 0 = nI n := h6
    rw [L_X9_many_25, e6, if_pos (by rw [n_le (by omega) (by omega)]; omega), show k = n by omega]
    exact ⟨g, rfl⟩
  | succ m ih =>
    intro k f g h1 h2 h3
    obtain ⟨f, rfl⟩ : ∃ n', f = n' + 1 := ⟨f - 1, by omega⟩
    have b1 := hb k (by omega)
    have b2 := bc_le (ln := ln) (C := C) (l := l) (k := k) (fun j hj => hb j (by omega))
    have b3 := bL_b hln l (oG l k) (k := k + 1) (by omega)
    have e6 : (zs M 20 g) 6 0 = nI n := h6
    have e17 : ∀ g, (zs M 20 g) 17 k = nI (oG l k) := fun g => hr k (by omega)
    have e19 : (zs M 20 g) 19 k = nI (ln k) := h19 k (by omega)
    have eL : bL ln l (oG l k) (k + 1) = bL ln l (oG l k) k + ln k := by
      show bL ln l (oG l k) k + (if oG l k = oG l k then ln k else 0) = _
      rw [if_pos rfl]
    rw [L_X9_many_25, e6, if_neg (by rw [n_le (by omega) (by omega)]; omega), pl_k rfl (by omega) (by omega), e17, pl_k rfl (by omega) (by omega), pl_k rfl (by omega) (by omega), e19, zs_s, h3 _ b1, n_add, ← eL, pw_k rfl (by omega) (by omega), zs_s, zs_zs]
    have e32 : ∀ g, (zs M 20 g) 3 2 = nI C := fun g => h32
    rw [pl_k rfl (by omega) (by omega), e17, pl_k rfl (by omega) (by omega), e17, n_1, n_add]
    have eA : (if nI (oG l k + 1) ≤ nI (bc ln C k l) then some (nI (bc ln C k l)) else some (nI (oG l k + 1))) = some (nI (if oG l k + 1 ≤ bc ln C k l then bc ln C k l else oG l k + 1)) := by
      by_cases c : oG l k + 1 ≤ bc ln C k l
      · rw [if_pos ((n_le (by omega) (by omega)).mpr c), if_pos c]
      · rw [if_neg (fun h => c ((n_le (by omega) (by omega)).mp h)), if_neg c]
    rw [pb1 eA, pl_k rfl (by omega) (by omega), e17, pl_k rfl (by omega) (by omega), zs_s, up_s, e32]
    have eB : (if nI (bL ln l (oG l k) (k + 1)) ≤ nI C then some (nI (if oG l k + 1 ≤ bc ln C k l then bc ln C k l else oG l k + 1)) else some (99 : Int32)) = some (nI (bc ln C (k + 1) l)) := by
      rw [bc_s b1]
      by_cases c : bL ln l (oG l k) (k + 1) ≤ C
      · rw [if_pos ((n_le (by omega) (by omega)).mpr c), if_pos c]
      · rw [if_neg (fun h => c ((n_le (by omega) (by omega)).mp h)), if_neg c]
        rfl
    rw [pb1 eB, pv, n_add]
    refine ih (k + 1) f _ (by omega) (by omega) (fun b hb7 => ?_)
    by_cases c : b = oG l k
    · subst c; rw [up_s]
    · rw [up_n _ _ c, h3 b hb7]
      show _ = nI (bL ln l b k + (if oG l k = b then ln k else 0))
      rw [if_neg (fun e => c e.symm), Nat.add_zero]
theorem manyM {M : zMm} {ln : Nat → Nat} {C n : Nat} {l : List Nat} (h6 : M 6 0 = nI n) (hC : C ≤ 999) (hn : n ≤ 7) (h32 : M 3 2 = nI C) (hr : oRw n M l) (hb : ∀ k, k < n → oG l k < 7) (hln : ∀ i, i < 7 → ln i ≤ 299) (h19 : ∀ i, i < n → M 19 i = nI (ln i)) : ∃ g, f_X9_many M = some (nI (bc ln C n l), zs M 20 g) := by
  have e := mn4 0 (M := M) 7 0 100000 (by omega) (by omega)
  rw [zfill_0, zs_self] at e
  have e : L_X9_many_4 0 100000 0 M = _ := e
  obtain ⟨g', q⟩ := mn25 h6 hC hn h32 hr hb hln h19 n 0 100000 (zfill (fun _ => 0) (M 20) 7) (by omega) (by omega) (fun b hb => by rw [zfill_in _ _ hb]; rfl)
  have q : L_X9_many_25 100000 0 0 (zs M 20 (zfill (fun _ => 0) (M 20) 7)) = _ := q
  unfold f_X9_many
  rw [pb2 e, pb3 q]
  exact ⟨g', rfl⟩
theorem b74 {M : zMm} (x y z w : Int32) : ∀ m k f, k + m = 7 → m < f → L_X9_bolts_74 x y z w f (nI k) (zs M 18 (zfill (M 17) (M 18) k)) = some (nI 7, zs M 18 (zfill (M 17) (M 18) 7)) := by
  intro m
  induction m with
  | zero =>
    intro k f h1 h2
    obtain ⟨f, rfl⟩ : ∃ n', f = n' + 1 := ⟨f - 1, by omega⟩
    rw [L_X9_bolts_74, if_pos (by rw [n_7, n_le (by omega) (by omega)]; omega), show k = 7 by omega]
  | succ m ih =>
    intro k f h1 h2
    obtain ⟨f, rfl⟩ : ∃ n', f = n' + 1 := ⟨f - 1, by omega⟩
    rw [L_X9_bolts_74, if_neg (by rw [n_7, n_le (by omega) (by omega)]; omega), pl_k rfl (by omega) (by omega), pw_k rfl (by omega) (by omega), zs_s, zs_zs, pv, n_1, n_add]
    have : (zs M 18 (zfill (M 17) (M 18) k)) 17 = M 17 := rfl
    rw [this, zfill_s]
    exact ih (k + 1) f (by omega) (by omega)
theorem b74' {M : zMm} (x y z w : Int32) : L_X9_bolts_74 x y z w 100000 0 M = some (nI 7, zs M 18 (zfill (M 17) (M 18) 7)) := by
  have e := b74 (M := M) x y z w 7 0 100000 (by omega) (by omega)
  rw [zfill_0, zs_self] at e
  exact e
