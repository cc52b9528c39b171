/-! the reference's next order -/
theorem oG_set {l : List Nat} {a k v : Nat} (ha : a < l.length) : oG (l.set a v) k = if k = a then v else oG l k := by
  unfold oG
  rw [List.getD_eq_getElem?_getD, List.getD_eq_getElem?_getD, List.getElem?_set]
  by_cases c : a = k
  · subst c
    rw [if_pos rfl, if_pos ha, if_pos rfl]
    rfl
  · rw [if_neg c, if_neg (fun e => c e.symm)]
theorem oS_len (l : List Nat) (a b : Nat) : (oS l a b).length = l.length := by
  unfold oS
  rw [List.length_set, List.length_set]
theorem oG_S {l : List Nat} {a b k : Nat} (ha : a < l.length) (hb : b < l.length) : oG (oS l a b) k = if k = b then oG l a else if k = a then oG l b else oG l k := by
  unfold oS
  rw [oG_set (by rw [List.length_set]; exact hb), oG_set ha]
def oRw (n : Nat) (M : zMm) (l : List Nat) : Prop := ∀ k, k < n → M 17 k = nI (oG l k)
theorem oRw_S {n : Nat} {M : zMm} {l : List Nat} (h : oRw n M l) (hl : l.length = n) {a b : Nat} (ha : a < n) (hb : b < n) : oRw n (zs M 17 (upd (upd (M 17) a (M 17 b)) b (M 17 a))) (oS l a b) := by
  intro k hk
  show upd (upd (M 17) a (M 17 b)) b (M 17 a) k = _
  rw [oG_S (by omega) (by omega)]
  by_cases c : k = b
  · subst c; rw [up_s, if_pos rfl]; exact h a ha
  · rw [up_n _ _ c, if_neg c]
    by_cases c2 : k = a
    · subst c2; rw [up_s, if_pos rfl]; exact h b hb
    · rw [up_n _ _ c2, if_neg c2]; exact h k hk
theorem dec1 {k : Nat} : nI (k + 1) + (-1) = nI k := by
  rw [show (-1 : Int32) = iI (-1) from rfl, ← iI_n, iI_add, ← iI_n]
  congr 1
  omega
theorem dec0 {k : Nat} : nI k + (-1) = iI ((k : Int) - 1) := by
  rw [show (-1 : Int32) = iI (-1) from rfl, ← iI_n, iI_add]
  congr 1
theorem nx11 {n : Nat} {M : zMm} {l : List Nat} (hr : oRw n M l) (hn : n ≤ 7) (hb : ∀ k, k < n → oG l k < 7) (x : Int32) : ∀ K f, K < n → K < f → L_X9_nextOrder_11 M x f (iI ((K : Int) - 1)) = some (iI ((oK l K : Int) - 1)) := by
  intro K
  induction K with
  | zero =>
    intro f h1 h2
    obtain ⟨f, rfl⟩ : ∃ n', f = n' + 1 := ⟨f - 1, by omega⟩
    rw [L_X9_nextOrder_11, if_pos (by decide)]
    rfl
  | succ K ih =>
    intro f h1 h2
    obtain ⟨f, rfl⟩ : ∃ n', f = n' + 1 := ⟨f - 1, by omega⟩
    have b1 := hb K (by omega)
    have b2 := hb (K + 1) h1
    have e : iI (((K + 1 : Nat) : Int) - 1) = nI K := by rw [← iI_n]; congr 1; omega
    rw [e, L_X9_nextOrder_11, if_neg (nI_pos (by omega)), pl_k rfl (by omega) (by omega), pl_k (k := K + 1) (by rw [n_1, n_add]) (by omega) (by omega), hr K (by omega), hr (K + 1) h1, oK]
    by_cases c : oG l K ≤ oG l (K + 1)
    · rw [if_pos ((n_le (by omega) (by omega)).mpr c), Nat.ble_eq_true_of_le c, ← e]
      rfl
    · have hc : Nat.ble (oG l K) (oG l (K + 1)) = false := by
        cases q : Nat.ble (oG l K) (oG l (K + 1)) with
        | false => rfl
        | true => exact absurd (Nat.le_of_ble_eq_true q) c
      rw [if_neg (fun h => c ((n_le (by omega) (by omega)).mp h)), pv, dec0, hc]
      exact ih f (by omega) (by omega)
theorem nx48 {n : Nat} {M : zMm} {l : List Nat} (hr : oRw n M l) (hn : n ≤ 7) (hb : ∀ k, k < n → oG l k < 7) (x : Int32) {k : Nat} (hk : k < n) : ∀ j f, k ≤ j → j < n → j < f → L_X9_nextOrder_48 M x (nI k) f (nI j) = some (nI (oJ l k j)) ∧ oJ l k j ≤ j := by
  intro j
  have b1 := hb k hk
  induction j with
  | zero =>
    intro f h1 h2 h3
    obtain ⟨f, rfl⟩ : ∃ n', f = n' + 1 := ⟨f - 1, by omega⟩
    have : k = 0 := by omega
    subst this
    rw [L_X9_nextOrder_48, pl_k rfl (by omega) (by omega), pl_k rfl (by omega) (by omega), if_pos (by rw [hr 0 h2, n_le (by omega) (by omega)]; exact Nat.le_refl _)]
    exact ⟨rfl, Nat.le_refl _⟩
  | succ j ih =>
    intro f h1 h2 h3
    obtain ⟨f, rfl⟩ : ∃ n', f = n' + 1 := ⟨f - 1, by omega⟩
    have b2 := hb (j + 1) h2
    rw [L_X9_nextOrder_48, pl_k rfl (by omega) (by omega), pl_k rfl (by omega) (by omega), hr k hk, hr (j + 1) h2, oJ]
    by_cases c : oG l k ≤ oG l (j + 1)
    · rw [if_pos ((n_le (by omega) (by omega)).mpr c), Nat.ble_eq_true_of_le c]
      exact ⟨rfl, Nat.le_refl _⟩
    · have hc : Nat.ble (oG l k) (oG l (j + 1)) = false := by
        cases q : Nat.ble (oG l k) (oG l (j + 1)) with
        | false => rfl
        | true => exact absurd (Nat.le_of_ble_eq_true q) c
      have hkj : k ≤ j := by
        rcases Nat.lt_or_ge j k with q | q
        · have : k = j + 1 := by omega
          subst this
          exact absurd (Nat.le_refl _) c
        · exact q
      rw [if_neg (fun h => c ((n_le (by omega) (by omega)).mp h)), pv, dec1, hc]
      have := ih f hkj (by omega) (by omega)
      exact ⟨this.1, Nat.le_succ_of_le this.2⟩
theorem nx107 {n : Nat} (hn : n ≤ 7) (x y z : Int32) : ∀ g l M f v a b, l.length = n → oRw n M l → a ≤ n → b < n → b ≤ a + g → g < f → ∃ v' a' b' M', L_X9_nextOrder_107 x y z f v (nI a) (nI b) M = some (v', a', b', M') ∧ oRw n M' (oR g l a b) ∧ (∀ j, j ≠ 17 → M' j = M j) := by
  intro g
  induction g with
  | zero =>
    intro l M f v a b hl hr h0 h1 h2 h3
    obtain ⟨f, rfl⟩ : ∃ n', f = n' + 1 := ⟨f - 1, by omega⟩
    rw [L_X9_nextOrder_107, if_pos (by rw [n_le (by omega) (by omega)]; omega)]
    exact ⟨_, _, _, _, rfl, hr, fun _ _ => rfl⟩
  | succ g ih =>
    intro l M f v a b hl hr h0 h1 h2 h3
    obtain ⟨f, rfl⟩ : ∃ n', f = n' + 1 := ⟨f - 1, by omega⟩
    by_cases c : b ≤ a
    · have hc : Nat.blt a b = false := by
        cases q : Nat.blt a b with
        | false => rfl
        | true => have := Nat.le_of_ble_eq_true q; omega
      rw [L_X9_nextOrder_107, if_pos (by rw [n_le (by omega) (by omega)]; omega), oR, hc]
      exact ⟨_, _, _, _, rfl, hr, fun _ _ => rfl⟩
    · have hc : Nat.blt a b = true := Nat.ble_eq_true_of_le (by omega)
      obtain ⟨b, rfl⟩ : ∃ b', b = b' + 1 := ⟨b - 1, by omega⟩
      rw [L_X9_nextOrder_107, if_neg (by rw [n_le (by omega) (by omega)]; omega), pl_k rfl (by omega) (by omega), pl_k rfl (by omega) (by omega), pw_k rfl (by omega) (by omega), pw_k rfl (by omega) (by omega), zs_s, zs_zs, pv, pv, dec1, n_1, n_add, oR, hc]
      obtain ⟨v', a', b', M', q1, q2, q3⟩ := ih (oS l a (b + 1)) (zs M 17 (upd (upd (M 17) a (M 17 (b + 1))) (b + 1) (M 17 a))) f (M 17 a) (a + 1) b (by rw [oS_len]; exact hl) (oRw_S hr hl (by omega) h1) (by omega) (by omega) (by omega) (by omega)
      exact ⟨v', a', b', M', q1, q2, fun j hj => by rw [q3 j hj, zs_n _ _ hj]⟩
theorem oK_le (l : List Nat) : ∀ K, oK l K ≤ K
  | 0 => Nat.le_refl _
  | K + 1 => by
    rw [oK]
    cases Nat.ble (oG l K) (oG l (K + 1)) with
    | true => exact Nat.le_refl _
    | false => exact Nat.le_succ_of_le (oK_le l K)
theorem nextM {n : Nat} {M : zMm} {l : List Nat} (h6 : M 6 0 = nI n) (hr : oRw n M l) (h1 : 1 ≤ n) (hn : n ≤ 7) (hl : l.length = n) (hb : ∀ k, k < n → oG l k < 7) : (oN n l = none ∧ f_X9_nextOrder M = some (0, M)) ∨ ∃ l' M', oN n l = some l' ∧ f_X9_nextOrder M = some (1, M') ∧ oRw n M' l' ∧ ∀ j, j ≠ 17 → M' j = M j := by
  have e2 : nI n - 2 = iI (((n - 1 : Nat) : Int) - 1) := by
    rw [n_2, ← iI_n, ← iI_n, iI_sub]; congr 1; omega
  have e1 : nI n - 1 = nI (n - 1) := by
    rw [n_1, ← iI_n, ← iI_n, iI_sub, ← iI_n]; congr 1; omega
  have hK := oK_le l (n - 1)
  unfold f_X9_nextOrder oN
  rw [h6, pv, pv, e2, pb1 (nx11 hr hn hb (nI n) (n - 1) 100000 (by omega) (by omega))]
  cases c : oK l (n - 1) with
  | zero =>
    left
    refine ⟨rfl, ?_⟩
    rw [if_neg (by decide)]
  | succ k =>
    right
    rw [c] at hK
    have e3 : iI (((k + 1 : Nat) : Int) - 1) = nI k := by rw [← iI_n]; congr 1; omega
    obtain ⟨j1, j2⟩ := nx48 hr hn hb (nI n) (k := k) (by omega) (n - 1) 100000 (by omega) (by omega) (by omega)
    rw [e3, if_pos (nI_pos' (by omega)), pv, e1, pb1 j1, pl_k rfl (by omega) (by omega), pl_k rfl (by omega) (by omega), pw_k rfl (by omega) (by omega), pw_k rfl (by omega) (by omega), zs_s, zs_zs, pv, pv, n_1, n_add]
    obtain ⟨v', a', b', M', q1, q2, q3⟩ := nx107 hn (nI n) (nI k) (nI (oJ l k (n - 1))) 7 (oS l k (oJ l k (n - 1))) _ 100000 (M 17 k) (k + 1) (n - 1) (by rw [oS_len]; exact hl) (oRw_S hr hl (by omega : k < n) (by omega : oJ l k (n - 1) < n)) (by omega) (by omega) (by omega) (by omega)
    rw [pb4 q1]
    exact ⟨_, M', rfl, rfl, q2, fun j hj => by rw [q3 j hj, zs_n _ _ hj]⟩
/-! the reference's order -/
def oOK (n : Nat) (l : List Nat) : Prop := l.length = n ∧ l.Nodup ∧ ∀ i, i ∈ l → i < n
theorem oG_m {l : List Nat} {k : Nat} (h : k < l.length) : oG l k = l[k] := by
  unfold oG
  rw [List.getD_eq_getElem?_getD, List.getElem?_eq_getElem h]
  rfl
theorem oOK_g {n : Nat} {l : List Nat} (h : oOK n l) {k : Nat} (hk : k < n) : oG l k < n ∧ l.idxOf (oG l k) = k := by
  obtain ⟨h1, h2, h3⟩ := h
  have hk' : k < l.length := by omega
  rw [oG_m hk']
  exact ⟨h3 _ (List.getElem_mem hk'), List.Nodup.idxOf_getElem h2 k hk'⟩
theorem oOK_all {n : Nat} {l : List Nat} (h : oOK n l) {i : Nat} (hi : i < n) : ∃ k, k < n ∧ oG l k = i := by
  refine Classical.byContradiction fun hno => ?_
  have hne : ∀ k, k < n → oG l k ≠ i := fun k hk e => hno ⟨k, hk, e⟩
  have := zholes n (n + 1) (fun k => if k < n then oG l k else i) (fun k hk => by
    show (if k < n then oG l k else i) < n
    split
    · next q => exact (oOK_g h q).1
    · exact hi) (fun a b hab hb => by
    show (if a < n then oG l a else i) ≠ (if b < n then oG l b else i)
    rw [if_pos (by omega : a < n)]
    split
    · next q =>
      intro e
      have e1 := (oOK_g h (by omega : a < n)).2
      have e2 := (oOK_g h q).2
      rw [e] at e1
      omega
    · exact hne a (by omega))
  omega
theorem iPlM_fr {M M2 : zMm} {pl : zN} (h : iPlM M pl) (e : ∀ j, j < 17 → M2 j = M j) : iPlM M2 pl := by
  unfold iPlM at h ⊢
  simp only [e 3 (by decide), e 4 (by decide), e 5 (by decide), e 6 (by decide), e 7 (by decide), e 8 (by decide), e 9 (by decide)]
  exact h
theorem o54 {M : zMm} {pl : zN} (hp : iPlM M pl) (hw : iWF pl) {l : List Nat} (hk : oOK (pl 7 0) l) (hr : oRw (pl 7 0) M l) (x y z : Int32) : ∀ m k f g, k + m = pl 7 0 → m < f → (∀ j, j < k → g (oG l j) = nI (oW pl l (oG l j))) → ∃ g', L_X9_order_54 x y z f (nI k) (zs M 19 g) = some (nI (pl 7 0), zs M 19 g') ∧ ∀ j, j < pl 7 0 → g' (oG l j) = nI (oW pl l (oG l j)) := by
  have hb := hw.1
  intro m
  induction m with
  | zero =>
    intro k f g h1 h2 h3
    obtain ⟨f, rfl⟩ : ∃ n', f = n' + 1 := ⟨f - 1, by omega⟩
    have e6 : (zs M 19 g) 6 0 = nI (pl 7 0) := hp.1.2.1
    rw [L_X9_order_54, e6, if_pos (by rw [n_le (by omega) (by omega)]; omega), show k = pl 7 0 by omega]
    exact ⟨g, rfl, fun j hj => h3 j (by omega)⟩
  | succ m ih =>
    intro k f g h1 h2 h3
    obtain ⟨f, rfl⟩ : ∃ n', f = n' + 1 := ⟨f - 1, by omega⟩
    have e6 : (zs M 19 g) 6 0 = nI (pl 7 0) := hp.1.2.1
    have e17 : (zs M 19 g) 17 k = nI (oG l k) := hr k (by omega)
    have e31 : (zs M 19 g) 3 1 = nI (pl 10 0) := hp.1.2.2.2.2.1
    obtain ⟨g1, g2⟩ := oOK_g hk (by omega : k < pl 7 0)
    have hs := zSL_b (oG l k) k (pl 10 0)
    have eC : zcut pl (oG l k) (iI (zSL (oG l k) k (pl 10 0))) = nI (oW pl l (oG l k)) := by
      unfold oW
      rw [g2, zcut_n hw g1 (by omega)]
    rw [L_X9_order_54, e6, if_neg (by rw [n_le (by omega) (by omega)]; omega), pl_k rfl (by omega) (by omega), pl_k rfl (by omega) (by omega), pl_k rfl (by omega) (by omega), e17, e31, pb1 (slipM (by omega) (by omega) (by omega)), pb1 (cutM (M := zs M 19 g) hp hw g1 _), pw_k rfl (by omega) (by omega), zs_s, zs_zs, pv, n_1, n_add, eC]
    refine ih (k + 1) f _ (by omega) (by omega) (fun j hj => ?_)
    by_cases c : j = k
    · subst c; rw [up_s]
    · have hne : oG l j ≠ oG l k := fun e => by
        have := (oOK_g hk (by omega : j < pl 7 0)).2
        rw [e] at this
        omega
      rw [up_n _ _ hne]
      exact h3 j (by omega)
theorem zSUM_n {f : Nat → Int32} {g : Nat → Nat} : ∀ n, (∀ i, i < n → f i = nI (g i)) → zSUM f n = nI (oZ g n)
  | 0, _ => rfl
  | n + 1, h => by rw [zSUM, oZ, zSUM_n n (fun i hi => h i (by omega)), h n (by omega), n_add]
theorem gapsM_o {M : zMm} {pl : zN} (hp : iPlM M pl) (hw : iWF pl) {l : List Nat} (hk : oOK (pl 7 0) l) (h : ∀ j, j < pl 7 0 → M 19 (oG l j) = nI (oW pl l (oG l j))) : f_X9_gaps M = some (nI (oP pl l)) := by
  have hall : ∀ i, i < pl 7 0 → M 19 i = nI (oW pl l i) := fun i hi => by
    obtain ⟨k, h1, h2⟩ := oOK_all hk hi
    rw [← h2]; exact h k h1
  have hmem : ∀ i, i < pl 7 0 → i ∈ l := fun i hi => by
    obtain ⟨k, h1, h2⟩ := oOK_all hk hi
    have : k < l.length := by have := hk.1; omega
    rw [← h2, oG_m this]
    exact List.getElem_mem this
  rw [sumM hp hw]
  congr 1
  refine zSUM_n _ (fun s hs => ?_)
  obtain ⟨w1, w2, -⟩ := hw.2.2.2 s hs
  unfold zGAP oE
  rw [if_pos ⟨hmem _ w1, hmem _ w2⟩, hall _ w1, hall _ w2, oD_e (oW_b hw w1) (oW_b hw w2)]
theorem o134 {M : zMm} (x y z w : Int32) : ∀ m k f, k + m = 7 → m < f → L_X9_order_134 x y z w f (nI k) (zs M 18 (zfill (M 17) (M 18) k)) = some (nI 7, zs M 18 (zfill (M 17) (M 18) 7)) := by
  intro m
  induction m with
  | zero =>
    intro k f h1 h2
    obtain ⟨f, rfl⟩ : ∃ n', f = n' + 1 := ⟨f - 1, by omega⟩
    rw [L_X9_order_134, if_pos (by rw [n_7, n_le (by omega) (by omega)]; omega), show k = 7 by omega]
  | succ m ih =>
    intro k f h1 h2
    obtain ⟨f, rfl⟩ : ∃ n', f = n' + 1 := ⟨f - 1, by omega⟩
    rw [L_X9_order_134, if_neg (by rw [n_7, n_le (by omega) (by omega)]; omega), pl_k rfl (by omega) (by omega), pw_k rfl (by omega) (by omega), zs_s, zs_zs, pv, n_1, n_add]
    have : (zs M 18 (zfill (M 17) (M 18) k)) 17 = M 17 := rfl
    rw [this, zfill_s]
    exact ih (k + 1) f (by omega) (by omega)
theorem o134' {M : zMm} (x y z w : Int32) : L_X9_order_134 x y z w 100000 0 M = some (nI 7, zs M 18 (zfill (M 17) (M 18) 7)) := by
  have e := o134 (M := M) x y z w 7 0 100000 (by omega) (by omega)
  rw [zfill_0, zs_self] at e
  exact e
