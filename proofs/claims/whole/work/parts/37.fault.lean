theorem iDD_fr {P M M2 : zMm} (h : iDD P M) (g : ∀ j, j ≠ 2 → j ≠ 22 → M2 j = M j) : iDD P M2 := by
  obtain ⟨pl, hw, hp, hd⟩ := h
  refine ⟨pl, hw, hp, ?_⟩
  unfold iDr at hd ⊢
  rw [g 3 (by decide) (by decide), g 4 (by decide) (by decide), g 5 (by decide) (by decide), g 6 (by decide) (by decide), g 7 (by decide) (by decide), g 8 (by decide) (by decide), g 9 (by decide) (by decide)]
  exact hd
/-- what one item comes to on both sides -/
def iOne (X P M : zMm) (t s k : Nat) : Prop := ∃ n' r9 X2 rm M2, f_X7_numbersBehind (nI k) = some n' ∧ f_X7_readItem X (nI s) n' = some (r9, X2) ∧ f_X9_isItem M = some (rm, M2) ∧ (∀ j, j ≠ 1 → X2 j = X j) ∧ iSame M M2 ∧ ((r9 = -1 ∧ rm = 0) ∨ (∃ e rt P2, r9 = nI e ∧ s < e ∧ e ≤ t ∧ M2 2 0 = nI e ∧ f_X5_takes P (fun j => X2 (1 + j)) (nI k) = some (rt, P2) ∧ rm = rt ∧ (rt = 0 ∨ rt = 1 ∧ iDD P2 M2)))
theorem good2 {M : zMm} {k : Int32} : ∀ {r : Int32} {M2 : zMm}, f_X9_isGood M k = some (r, M2) → r = 0 ∨ r = 1 → zb2 (f_X9_isGood M k) (fun (r51 : Int32) (M_52 : zMm) => if r51 = 0 then some ((0 : Int32), M_52) else some ((1 : Int32), M_52)) = some (r, M2) := by
  intro r M2 h hr
  rw [pb2 h]
  rcases hr with rfl | rfl
  · rw [if_pos rfl]
  · rw [if_neg i10]
theorem good_row {P M : zMm} {Q : zMm} {k : Int32} (h : iQ P M (f_X5_takes P Q k) (f_X9_isGood M k)) (h2 : ∀ r M2, f_X9_isGood M k = some (r, M2) → r = 1 → M2 2 0 = M 2 0) : True := trivial
theorem one_n {X P M : zMm} {t s k n : Nat} {c : Nat → Nat} (hT : iTc X M t c) (hD : iDD P M) (hs : s < t) (hm : M 2 0 = nI s) (hc : c s = k) (hk : k < 128) (hn1 : 1 ≤ n) (hn3 : n ≤ 3) (b1 : f_X7_numbersBehind (nI k) = some (nI n)) (b2 : f_X9_numbers (nI k) = some (nI n)) (H : ∀ (M' Q : zMm) (u : Nat → Nat), iDD P M' → (∀ j, j < n → Q 0 j = nI (u j) ∧ M' 22 j = nI (u j) ∧ u j ≤ 999) → iQ P M' (f_X5_takes P Q (nI k)) (f_X9_isGood M' (nI k)) ∧ ∀ r M2, f_X9_isGood M' (nI k) = some (r, M2) → M2 2 = M' 2) : iOne X P M t s k := by
  have ht := hT.1
  have hv : M 1 s = nI k := (vAt hT hs hk).2 hc
  have hT1 : iTc X (zs M 2 (fun _ => nI (s + 1))) t c := iTc_fr hT rfl rfl (zs_n _ _ (by decide)) (zs_n _ _ (by decide))
  obtain ⟨r, X2, x, y, M2, e, g1, g2, g3, g4, g5, g6, g7⟩ := item hn3 (nI s) (nI k) n 0 100000 100000 (s + 1) (s + 1) X (zs M 2 (fun _ => nI (s + 1))) (fun _ => 0) hT1 (by omega) (by omega) (by omega) (by rw [zs_s]) (by omega) (Or.inl ⟨rfl, hn1, rfl⟩) (fun j hj => absurd hj (Nat.not_lt_zero _))
  have q1 : f_X7_readItem X (nI s) (nI n) = some (r, X2) := by
    unfold f_X7_readItem
    rw [if_neg (by rw [n_0, n_eq (by omega) (by omega)]; omega), pv, n_1, n_add, n_0, g1]
  have hM4 : ∀ g j, j ≠ 2 → j ≠ 22 → zs M2 2 g j = M j := fun g j a b => by rw [zs_n _ _ a, g4 j a b, zs_n _ _ a]
  have hT2 : iTc X M2 t c := iTc_fr hT rfl rfl (by rw [g4 0 (by decide) (by decide), zs_n _ _ (by decide)]) (by rw [g4 1 (by decide) (by decide), zs_n _ _ (by decide)])
  have q2 : f_X9_isItem M = zb1 (if x = 0 then some (0 : Int32) else if (M2 0 0) ≤ (M2 2 0) then some (0 : Int32) else zl 300 (M2 1) (M2 2 0) (fun v47 => if v47 = 59 then some (1 : Int32) else some (0 : Int32))) (fun (y43 : Int32) => zv (zs M2 2 (fun _ => (M2 2 0) + 1)) (fun (M_49 : zMm) => if y43 = 0 then some ((0 : Int32), M_49) else zb2 (f_X9_isGood M_49 (nI k)) (fun (r51 : Int32) (M_52 : zMm) => if r51 = 0 then some ((0 : Int32), M_52) else some ((1 : Int32), M_52)))) := by
    unfold f_X9_isItem
    have z : (if nI n ≤ 0 then some (0 : Int32) else some (1 : Int32)) = some 1 := by rw [if_neg (by rw [n_0, n_le (by omega) (by omega)]; omega)]
    rw [hm, pl_k rfl (by omega) (by omega), hv, pv, pb1 b2, pb1 z, n_1, n_add, ← n_1, n_0, pb3 g2]
  rcases g7 with ⟨a, b⟩ | ⟨a1, a2, a3, a4, a5, u, a6⟩
  · have q3 : (if x = 0 then some (0 : Int32) else if (M2 0 0) ≤ (M2 2 0) then some (0 : Int32) else zl 300 (M2 1) (M2 2 0) (fun v47 => if v47 = 59 then some (1 : Int32) else some (0 : Int32))) = some 0 := by
      rcases b with b | ⟨b, d⟩
      · rw [if_pos b]
      · rw [b, if_neg i10, hT2.2.2.1, g5]
        by_cases he : e < t
        · rw [if_neg (by rw [n_le (by omega) (by omega)]; omega), pl_k rfl (by omega) (by omega), if_neg (by rw [n_59, vAt hT2 he (by omega)]; exact fun w => d ⟨he, w⟩)]
        · rw [if_pos (by rw [n_le (by omega) (by omega)]; omega)]
    rw [pb1 q3, pv, if_pos rfl] at q2
    exact ⟨nI n, r, X2, 0, _, b1, q1, q2, g3, same_f (hM4 _), Or.inl ⟨a, rfl⟩⟩
  · have q3 : (if x = 0 then some (0 : Int32) else if (M2 0 0) ≤ (M2 2 0) then some (0 : Int32) else zl 300 (M2 1) (M2 2 0) (fun v47 => if v47 = 59 then some (1 : Int32) else some (0 : Int32))) = some 1 := by
      rw [a1, if_neg i10, hT2.2.2.1, g5, if_neg (by rw [n_le (by omega) (by omega)]; omega), pl_k rfl (by omega) (by omega), if_pos (by rw [n_59, vAt hT2 a3 (by omega)]; exact a5)]
    rw [pb1 q3, pv, if_neg i10, g5, n_1, n_add, ← n_1] at q2
    obtain ⟨⟨rt, P2, M3, k1, k2, k3, k4⟩, k5⟩ := H (zs M2 2 (fun _ => nI (e + 1))) (fun j => X2 (1 + j)) u (iDD_fr hD (hM4 _)) (fun j hj => by
      have q := a6 j hj
      rw [zs_n _ _ (by decide)]
      exact q)
    rw [good2 k2 (by rcases k4 with k4 | k4; exact Or.inl k4; exact Or.inr k4.1)] at q2
    refine ⟨nI n, r, X2, rt, M3, b1, q1, q2, g3, same_t (same_f (hM4 _)) k3, Or.inr ⟨e + 1, rt, P2, a2, by omega, by omega, ?_, k1, rfl, k4⟩⟩
    rw [k5 rt M3 k2, zs_s]
