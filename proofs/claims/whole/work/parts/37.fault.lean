theorem iDD_fr {P M M2 : zMm} (h : iDD P M) (g : ∀ j, j ≠ 2 → j ≠ 22 → M2 j = M j) : iDD P M2 := by
  obtain ⟨pl, hw, hp, hd⟩ := h
  refine ⟨pl, hw, hp, ?_⟩
  unfold iDr at hd ⊢
  rw [g 3 (by decide) (by decide), g 4 (by decide) (by decide), g 5 (by decide) (by decide), g 6 (by decide) (by decide), g 7 (by decide) (by decide), g 8 (by decide) (by decide), g 9 (by decide) (by decide)]
  exact hd
/-- what one item comes to on both sides -/
def iOne (X P M : zMm) (t s k : Nat) : Prop := ∃ n' r9 X2 rm M2, f_X7_numbersBehind (nI k) = some n' ∧ f_X7_readItem X (nI s) n' = some (r9, X2) ∧ f_X9_isItem M = some (rm, M2) ∧ (∀ j, j ≠ 1 → X2 j = X j) ∧ iSame M M2 ∧ ((r9 = -1 ∧ rm = 0) ∨ (∃ e rt P2, r9 = nI e ∧ s < e ∧ e ≤ t ∧ M2 2 0 = nI e ∧ f_X5_takes P (fun j => X2 (1 + j)) (nI k) = some (rt, P2) ∧ rm = rt ∧ (rt = 0 ∨ rt = 1 ∧ iDD P2 M2)))
theorem good2 {M : zMm} {k : Int32} : ∀ {r : Int32} {M2 : zMm}, f_X9_isGood M k = some (r, M2) → r = 0 ∨ r = 1 → zb2 (f_X9_isGood M k) (fun (r51 : Int32) (M_52 : zMm) => if r51 = 0 then some ((0 : Int32), M_52) else some ((1 : Int32), M_52)) = some (r, M2) := by
  intro r M2 h hr
  rw [pb2 h]
  rcases hr with rfl | rfl
  · rw [if_pos rfl]
  · rw [if_neg i10]
theorem one_n {X P M : zMm} {t s k n : Nat} {c : Nat → Nat} (hT : iTc X M t c) (hD : iDD P M) (hs : s < t) (hm : M 2 0 = nI s) (hc : c s = k) (hk : k < 128) (hn1 : 1 ≤ n) (hn3 : n ≤ 3) (b1 : f_X7_numbersBehind (nI k) = some (nI n)) (b2 : f_X9_numbers (nI k) = some (nI n)) (H : ∀ (M' Q : zMm) (u : Nat → Nat), iDD P M' → (∀ j, j < n → Q 0 j = nI (u j) ∧ M' 22 j = nI (u j) ∧ u j ≤ 999) → iQ P M' (f_X5_takes P Q (nI k)) (f_X9_isGood M' (nI k))) : iOne X P M t s k := by
  have ht := hT.1
  have hv : M 1 s = nI k := (vAt hT hs hk).2 hc
  have hT1 : iTc X (zs M 2 (fun _ => nI (s + 1))) t c := iTc_fr hT rfl rfl (zs_n _ _ (by decide)) (zs_n _ _ (by decide))
  obtain ⟨r, X2, x, y, M2, e, g1, g2, g3, g4, g5, g6, g7⟩ := item hn3 (nI s) (nI k) n 0 100000 100000 (s + 1) (s + 1) X (zs M 2 (fun _ => nI (s + 1))) (fun _ => 0) hT1 (by omega) (by omega) (by omega) (by rw [zs_s]) (by omega) (Or.inl ⟨rfl, hn1, rfl⟩) (fun j hj => absurd hj (Nat.not_lt_zero _))
  have q1 : f_X7_readItem X (nI s) (nI n) = some (r, X2) := by
    unfold f_X7_readItem
    rw [if_neg (by rw [n_0, n_eq (by omega) (by omega)]; omega), pv, n_1, n_add, n_0, g1]
  have hM4 : ∀ g j, j ≠ 2 → j ≠ 22 → zs M2 2 g j = M j := fun g j a b => by rw [zs_n _ _ a, g4 j a b, zs_n _ _ a]
  have hT2 : iTc X M2 t c := iTc_fr hT rfl rfl (by rw [g4 0 (by decide) (by decide), zs_n _ _ (by decide)]) (by rw [g4 1 (by decide) (by decide), zs_n _ _ (by decide)])
  have q2 : f_X9_isItem M = zb1 (if x = 0 then some (0 : Int32) else if (M2 0 0) ≤ (M2 2 0) then some (0 : Int32) else zl 300 (M2 1) (M2 2 0) (fun v47 => if v47 = 59 then some (1 : Int32) else some (0 : Int32))) (fun (y43 : Int32) => zv (zs M2 2 (fun _ => (M2 2 0) + 1)) (fun (M_49 : zMm) => if y43 = 0 then some ((0 : Int32), M_49) else zb2 (f_X9_isGood M_49 (nI k)) (fun (r51 : Int32) (M_52 : zMm) => if r51 = 0 then some ((0 : Int32), M_52) else some ((1 : Int32), M_52)))) := by
    unfold f_X9_isItem
    have z : (if nI n ≤ 0 then some (0 : Int32) else some (1 : Int32)) = some 1 := by rw [if_neg (by rw [n_0, n_le (by omega) (by omega)]; omega)]
    rw [hm, pl_k rfl (by omega) (by omega), hv, pv, pb1 b2, pb1 z, n_1, n_add, ← n_1, n_0, pb3 g2]
  rcases g7 with ⟨a, b⟩ | ⟨a1, a2, a3, a4, a5, u, a6⟩
  · have q3 : (if x = 0 then some (0 : Int32) else if (M2 0 0) ≤ (M2 2 0) then some (0 : Int32) else zl 300 (M2 1) (M2 2 0) (fun v47 => if v47 = 59 then some (1 : Int32) else some (0 : Int32))) = some 0 := by
      rcases b with b | ⟨b, d⟩
      · rw [if_pos b]
      · rw [b, if_neg i10, hT2.2.2.1, g5]
        by_cases he : e < t
        · rw [if_neg (by rw [n_le (by omega) (by omega)]; omega), pl_k rfl (by omega) (by omega), if_neg (by rw [n_59, vAt hT2 he (by omega)]; exact fun w => d ⟨he, w⟩)]
        · rw [if_pos (by rw [n_le (by omega) (by omega)]; omega)]
    rw [pb1 q3, pv, if_pos rfl] at q2
    exact ⟨nI n, r, X2, 0, _, b1, q1, q2, g3, same_f (hM4 _), Or.inl ⟨a, rfl⟩⟩
  · have q3 : (if x = 0 then some (0 : Int32) else if (M2 0 0) ≤ (M2 2 0) then some (0 : Int32) else zl 300 (M2 1) (M2 2 0) (fun v47 => if v47 = 59 then some (1 : Int32) else some (0 : Int32))) = some 1 := by
      rw [a1, if_neg i10, hT2.2.2.1, g5, if_neg (by rw [n_le (by omega) (by omega)]; omega), pl_k rfl (by omega) (by omega), if_pos (by rw [n_59, vAt hT2 a3 (by omega)]; exact a5)]
    rw [pb1 q3, pv, if_neg i10, g5, n_1, n_add, ← n_1] at q2
    obtain ⟨rt, P2, M3, k1, k2, k3, k5, k4⟩ := H (zs M2 2 (fun _ => nI (e + 1))) (fun j => X2 (1 + j)) u (iDD_fr hD (hM4 _)) (fun j hj => by
      have q := a6 j hj
      rw [zs_n _ _ (by decide)]
      exact q)
    rw [good2 k2 (by rcases k4 with k4 | k4; exact Or.inl k4; exact Or.inr k4.1)] at q2
    refine ⟨nI n, r, X2, rt, M3, b1, q1, q2, g3, same_t (same_f (hM4 _)) k3, Or.inr ⟨e + 1, rt, P2, a2, by omega, by omega, ?_, k1, rfl, k4⟩⟩
    rw [k5, zs_s]
theorem one_0 {X P M : zMm} {t s : Nat} {c : Nat → Nat} (hT : iTc X M t c) (hs : s < t) (hm : M 2 0 = nI s) (h1 : ¬ c s = 99) (h2 : ¬ c s = 103) (h3 : ¬ c s = 112) (h4 : ¬ c s = 115) (h5 : ¬ c s = 116) (h6 : ¬ c s = 122) : iOne X P M t s (c s) := by
  have ht := hT.1
  have hb := (hT.2.2.2 s hs).1
  have b1 : f_X7_numbersBehind (nI (c s)) = some 0 := by
    unfold f_X7_numbersBehind
    rw [n_99, n_103, n_112, n_115, n_116, n_122, if_neg (by rw [n_eq (by omega) (by omega)]; exact h1), if_neg (by rw [n_eq (by omega) (by omega)]; exact h2), if_neg (by rw [n_eq (by omega) (by omega)]; exact h3), if_neg (by rw [n_eq (by omega) (by omega)]; exact h4), if_neg (by rw [n_eq (by omega) (by omega)]; exact h5), if_neg (by rw [n_eq (by omega) (by omega)]; exact h6)]
  have b2 : f_X9_numbers (M 1 s) = some 0 := by
    unfold f_X9_numbers
    rw [n_99, n_103, n_112, n_115, n_116, n_122, if_neg (by rw [vAt hT hs (by omega)]; exact h3), if_neg (by rw [vAt hT hs (by omega)]; exact h4), if_neg (by rw [vAt hT hs (by omega)]; exact h5), if_neg (by rw [vAt hT hs (by omega)]; exact h2), if_neg (by rw [vAt hT hs (by omega)]; exact h6), if_neg (by rw [vAt hT hs (by omega)]; exact h1)]
  have q1 : f_X7_readItem X (nI s) 0 = some (-1, X) := by
    unfold f_X7_readItem
    rw [if_pos rfl]
  have z : (if (0 : Int32) ≤ 0 then some (0 : Int32) else some (1 : Int32)) = some 0 := by rw [if_pos (by decide)]
  have q2 : f_X9_isItem M = some (0, zs (zs M 2 (fun _ => M 2 0 + 1)) 2 (fun _ => zs M 2 (fun _ => M 2 0 + 1) 2 0 + 1)) := by
    unfold f_X9_isItem
    rw [pl_k hm (by omega) (by omega), pv, pb1 b2, pb1 z, pb3 (it0 _ _ 99999 _ _), if_pos rfl, pb1 rfl, pv, if_pos rfl]
  exact ⟨0, -1, X, 0, _, b1, q1, q2, fun _ _ => rfl, same_f (fun j a b => by rw [zs_n _ _ a, zs_n _ _ a]), Or.inl ⟨rfl, rfl⟩⟩
theorem one {X P M : zMm} {t s : Nat} {c : Nat → Nat} (hT : iTc X M t c) (hD : iDD P M) (hs : s < t) (hm : M 2 0 = nI s) : iOne X P M t s (c s) := by
  by_cases h1 : c s = 99
  · rw [h1]; exact one_n hT hD hs hm h1 (by omega) (n := 1) (by omega) (by omega) (by decide) (by decide) (fun M' Q u hd hu => t_bolt hd (hu 0 (by omega)).2.2 (hu 0 (by omega)).1 (hu 0 (by omega)).2.1)
  by_cases h2 : c s = 103
  · rw [h2]; exact one_n hT hD hs hm h2 (by omega) (n := 1) (by omega) (by omega) (by decide) (by decide) (fun M' Q u hd hu => t_gap hd (hu 0 (by omega)).2.2 (hu 0 (by omega)).1 (hu 0 (by omega)).2.1)
  by_cases h3 : c s = 112
  · rw [h3]; exact one_n hT hD hs hm h3 (by omega) (n := 3) (by omega) (by omega) (by decide) (by decide) (fun M' Q u hd hu => t_part hd (hu 0 (by omega)).2.2 (hu 1 (by omega)).2.2 (hu 2 (by omega)).2.2 (hu 0 (by omega)).1 (hu 0 (by omega)).2.1 (hu 1 (by omega)).1 (hu 1 (by omega)).2.1 (hu 2 (by omega)).1 (hu 2 (by omega)).2.1)
  by_cases h4 : c s = 115
  · rw [h4]; exact one_n hT hD hs hm h4 (by omega) (n := 2) (by omega) (by omega) (by decide) (by decide) (fun M' Q u hd hu => t_seam hd (hu 0 (by omega)).2.2 (hu 1 (by omega)).2.2 (hu 0 (by omega)).1 (hu 0 (by omega)).2.1 (hu 1 (by omega)).1 (hu 1 (by omega)).2.1)
  by_cases h5 : c s = 116
  · rw [h5]; exact one_n hT hD hs hm h5 (by omega) (n := 1) (by omega) (by omega) (by decide) (by decide) (fun M' Q u hd hu => t_tailor hd (hu 0 (by omega)).2.2 (hu 0 (by omega)).1 (hu 0 (by omega)).2.1)
  by_cases h6 : c s = 122
  · rw [h6]; exact one_n hT hD hs hm h6 (by omega) (n := 1) (by omega) (by omega) (by decide) (by decide) (fun M' Q u hd hu => t_boy hd (hu 0 (by omega)).2.2 (hu 0 (by omega)).1 (hu 0 (by omega)).2.1)
  exact one_0 hT hs hm h1 h2 h3 h4 h5 h6
theorem f_loop {t : Nat} {c : Nat → Nat} : ∀ k s m n n2 X P M, iTc X M t c → iDD P M → M 2 0 = nI s → s + k = t → m ≤ s → k < n → k < n2 → ∃ r X2 P2 M2, L_X7_readInto_8 n (nI s) (nI m) X P = some (r, X2, P2) ∧ L_X9_fault_9 n2 M = some (r, M2) ∧ (∀ j, j ≠ 1 → X2 j = X j) ∧ iSame M M2 ∧ (r = -4 ∧ iDD P2 M2 ∨ ∃ e, r = nI e ∧ e < 300) := by
  intro k
  induction k using Nat.strongRecOn with
  | _ k ih =>
    intro s m n n2 X P M hT hD hm hs hms hn hn2
    have ht := hT.1
    obtain ⟨n, rfl⟩ : ∃ n', n = n' + 1 := ⟨n - 1, by omega⟩
    obtain ⟨n2, rfl⟩ : ∃ n', n2 = n' + 1 := ⟨n2 - 1, by omega⟩
    rw [L_X7_readInto_8, L_X9_fault_9, hT.2.2.1, hT.2.1, hm]
    by_cases he : t ≤ s
    · rw [if_pos (show nI t ≤ nI s by rw [n_le (by omega) (by omega)]; exact he), if_pos (show nI t ≤ nI s by rw [n_le (by omega) (by omega)]; exact he)]
      refine ⟨-4, X, P, M, ?_, rfl, fun _ _ => rfl, same_r _, Or.inl ⟨rfl, hD⟩⟩
      split <;> rfl
    · have hb := (hT.2.2.2 s (by omega)).1
      obtain ⟨n', r9, X2, rm, M2, g1, g2, g3, g4, g5, g6⟩ := one hT hD (by omega) hm
      rw [if_neg (show ¬ (300 : Int32) ≤ nI m by rw [n_300, n_le (by omega) (by omega)]; omega), if_neg (show ¬ nI t ≤ nI s by rw [n_le (by omega) (by omega)]; exact he), if_neg (show ¬ nI t ≤ nI s by rw [n_le (by omega) (by omega)]; exact he), pb1 (bAt hT (by omega)), pb1 g1, pb2 g2, pv, pb2 g3]
      rcases g6 with ⟨a, b⟩ | ⟨e, rt, P2, a1, a2, a3, a4, a5, a6, a7⟩
      · rw [if_pos a, if_pos b]
        exact ⟨_, _, _, _, rfl, rfl, g4, g5, Or.inr ⟨s, rfl, by omega⟩⟩
      · rw [a1, if_neg (nn1 (by omega)), pb2 a5, a6]
        rcases a7 with a7 | ⟨a7, a8⟩
        · rw [if_pos a7, if_pos a7]
          exact ⟨_, _, _, _, rfl, rfl, g4, g5, Or.inr ⟨s, rfl, by omega⟩⟩
        · rw [a7, if_neg i10, if_neg i10, pv, n_1, n_add]
          have hT2 : iTc X2 M2 t c := iTc_fr hT (g4 0 (by decide)) (g4 2 (by decide)) (g5.1 0 (by omega) (by decide)) (g5.1 1 (by omega) (by decide))
          obtain ⟨r, X3, P3, M3, i1, i2, i3, i4, i5⟩ := ih (t - e) (by omega) e (m + 1) n n2 X2 P2 M2 hT2 a8 a4 (by omega) (by omega) (by omega) (by omega)
          exact ⟨r, X3, P3, M3, i1, i2, fun j hj => by rw [i3 j hj, g4 j hj], same_t g5 i4, i5⟩
