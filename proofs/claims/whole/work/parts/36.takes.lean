/-- the draft of the model -/
def iDr (M : zMm) (pl : zN) : Prop := (M 4 1 = nI (pl 6 0) ∧ M 6 1 = nI (pl 7 0) ∧ M 8 1 = nI (pl 8 0) ∧ M 3 3 = nI (pl 9 0) ∧ M 3 4 = nI (pl 10 0) ∧ M 3 5 = nI (pl 11 0)) ∧ (∀ i, i < pl 6 0 → M 5 (6 + i) = nI (pl 0 i)) ∧ (∀ i, i < pl 7 0 → M 7 (21 + 3 * i) = nI (pl 1 i) ∧ M 7 (21 + 3 * i + 1) = nI (pl 2 i) ∧ M 7 (21 + 3 * i + 2) = nI (pl 3 i)) ∧ (∀ i, i < pl 8 0 → M 9 (20 + 2 * i) = nI (pl 4 i) ∧ M 9 (21 + 2 * i) = nI (pl 5 i))
/-- the plan itself is as it was -/
def iSame (M M2 : zMm) : Prop := (∀ j, j ≤ 1 ∨ 10 ≤ j → j ≠ 22 → M2 j = M j) ∧ M2 4 0 = M 4 0 ∧ M2 6 0 = M 6 0 ∧ M2 8 0 = M 8 0 ∧ (∀ i, i < 3 → M2 3 i = M 3 i) ∧ (∀ i, i < 6 → M2 5 i = M 5 i) ∧ (∀ i, i < 21 → M2 7 i = M 7 i) ∧ (∀ i, i < 20 → M2 9 i = M 9 i)
theorem same_r (M : zMm) : iSame M M := ⟨fun _ _ _ => rfl, rfl, rfl, rfl, fun _ _ => rfl, fun _ _ => rfl, fun _ _ => rfl, fun _ _ => rfl⟩
theorem same_t {A B C : zMm} (h : iSame A B) (g : iSame B C) : iSame A C := by
  obtain ⟨a1, a2, a3, a4, a5, a6, a7, a8⟩ := h
  obtain ⟨b1, b2, b3, b4, b5, b6, b7, b8⟩ := g
  exact ⟨fun j x y => (b1 j x y).trans (a1 j x y), b2.trans a2, b3.trans a3, b4.trans a4, fun i h => (b5 i h).trans (a5 i h), fun i h => (b6 i h).trans (a6 i h), fun i h => (b7 i h).trans (a7 i h), fun i h => (b8 i h).trans (a8 i h)⟩
theorem same_3 (M : zMm) {k : Nat} (v : Int32) (hk : 3 ≤ k) : iSame M (zs M 3 (upd (M 3) k v)) := ⟨fun j x y => zs_n _ _ (by omega), rfl, rfl, rfl, fun i h => by rw [zs_s, up_n _ _ (by omega)], fun _ _ => rfl, fun _ _ => rfl, fun _ _ => rfl⟩
theorem same_4 (M : zMm) (v : Int32) : iSame M (zs M 4 (upd (M 4) 1 v)) := ⟨fun j x y => zs_n _ _ (by omega), by rw [zs_s, up_n _ _ (by omega)], rfl, rfl, fun _ _ => rfl, fun _ _ => rfl, fun _ _ => rfl, fun _ _ => rfl⟩
theorem same_6 (M : zMm) (v : Int32) : iSame M (zs M 6 (upd (M 6) 1 v)) := ⟨fun j x y => zs_n _ _ (by omega), rfl, by rw [zs_s, up_n _ _ (by omega)], rfl, fun _ _ => rfl, fun _ _ => rfl, fun _ _ => rfl, fun _ _ => rfl⟩
theorem same_8 (M : zMm) (v : Int32) : iSame M (zs M 8 (upd (M 8) 1 v)) := ⟨fun j x y => zs_n _ _ (by omega), rfl, rfl, by rw [zs_s, up_n _ _ (by omega)], fun _ _ => rfl, fun _ _ => rfl, fun _ _ => rfl, fun _ _ => rfl⟩
theorem same_5 (M : zMm) {k : Nat} (v : Int32) (hk : 6 ≤ k) : iSame M (zs M 5 (upd (M 5) k v)) := ⟨fun j x y => zs_n _ _ (by omega), rfl, rfl, rfl, fun _ _ => rfl, fun i h => by rw [zs_s, up_n _ _ (by omega)], fun _ _ => rfl, fun _ _ => rfl⟩
theorem same_7 (M : zMm) {k : Nat} (v : Int32) (hk : 21 ≤ k) : iSame M (zs M 7 (upd (M 7) k v)) := ⟨fun j x y => zs_n _ _ (by omega), rfl, rfl, rfl, fun _ _ => rfl, fun _ _ => rfl, fun i h => by rw [zs_s, up_n _ _ (by omega)], fun _ _ => rfl⟩
theorem same_9 (M : zMm) {k : Nat} (v : Int32) (hk : 20 ≤ k) : iSame M (zs M 9 (upd (M 9) k v)) := ⟨fun j x y => zs_n _ _ (by omega), rfl, rfl, rfl, fun _ _ => rfl, fun _ _ => rfl, fun _ _ => rfl, fun i h => by rw [zs_s, up_n _ _ (by omega)]⟩
theorem same_f {M M2 : zMm} (h : ∀ j, j ≠ 2 → j ≠ 22 → M2 j = M j) : iSame M M2 := ⟨fun j x y => h j (by omega) y, by rw [h 4 (by decide) (by decide)], by rw [h 6 (by decide) (by decide)], by rw [h 8 (by decide) (by decide)], fun i _ => by rw [h 3 (by decide) (by decide)], fun i _ => by rw [h 5 (by decide) (by decide)], fun i _ => by rw [h 7 (by decide) (by decide)], fun i _ => by rw [h 9 (by decide) (by decide)]⟩
def ns (pl : zN) (j i v : Nat) : zN := fun a b => if a = j ∧ b = i then v else pl a b
theorem ns_s (pl : zN) (j i v : Nat) : ns pl j i v j i = v := if_pos ⟨rfl, rfl⟩
theorem ns_r (pl : zN) {j a : Nat} (i v b : Nat) (h : a ≠ j) : ns pl j i v a b = pl a b := if_neg (fun w => h w.1)
theorem ns_n (pl : zN) {i b : Nat} (j v a : Nat) (h : b ≠ i) : ns pl j i v a b = pl a b := if_neg (fun w => h w.2)
/-- both sides' drafts -/
def iDD (P M : zMm) : Prop := ∃ pl, iWF pl ∧ iPlX P pl ∧ iDr M pl
def iQ (P M : zMm) (o : Option (Int32 × zMm)) (o2 : Option (Int32 × zMm)) : Prop := ∃ r P2 M2, o = some (r, P2) ∧ o2 = some (r, M2) ∧ iSame M M2 ∧ M2 2 = M 2 ∧ (r = 0 ∨ r = 1 ∧ iDD P2 M2)
theorem t_gap {P M Q : zMm} (h : iDD P M) {x : Nat} (hx : x ≤ 999) (h1 : Q 0 0 = nI x) (h2 : M 22 0 = nI x) : iQ P M (f_X5_takes P Q (nI 103)) (f_X9_isGood M (nI 103)) := by
  obtain ⟨pl, hw, hp, hd⟩ := h
  unfold f_X5_takes f_X9_isGood
  rw [if_neg (by decide), if_pos (by decide), h1, h2, pv, if_neg (by decide), if_neg (by decide), if_neg (by decide), if_pos (by decide), pb1 rfl, pw_k n_3 (by omega : 3 < 6) (by omega), if_pos (by decide)]
  unfold f_X5_takesGap
  by_cases c : x ≤ 20
  · rw [n_20, if_pos (by rw [n_le (by omega) (by omega)]; exact c), pv, pb2 rfl, po1, n_21, if_neg (by rw [n_le (by omega) (by omega)]; omega)]
    refine ⟨1, _, _, rfl, rfl, same_3 _ _ (by omega), rfl, Or.inr ⟨rfl, ns pl 9 0 x, ?_, ?_, ?_⟩⟩
    · obtain ⟨⟨a1, a2, a3, a4, a5, a6, a7⟩, b, d, e⟩ := hw
      exact ⟨⟨a1, a2, a3, c, a5, a6, a7⟩, b, d, e⟩
    · obtain ⟨⟨a1, a2, a3, a4, a5, a6⟩, b, d, e⟩ := hp
      exact ⟨⟨a1, a2, a3, rfl, a5, a6⟩, b, d, e⟩
    · obtain ⟨⟨a1, a2, a3, a4, a5, a6⟩, b, d, e⟩ := hd
      exact ⟨⟨a1, a2, a3, rfl, a5, a6⟩, b, d, e⟩
  · rw [n_20, if_neg (by rw [n_le (by omega) (by omega)]; exact c), pb2 rfl, po0, n_21, if_pos (by rw [n_le (by omega) (by omega)]; omega)]
    exact ⟨0, _, _, rfl, rfl, same_3 _ _ (by omega), rfl, Or.inl rfl⟩
theorem t_boy {P M Q : zMm} (h : iDD P M) {x : Nat} (hx : x ≤ 999) (h1 : Q 0 0 = nI x) (h2 : M 22 0 = nI x) : iQ P M (f_X5_takes P Q (nI 122)) (f_X9_isGood M (nI 122)) := by
  obtain ⟨pl, hw, hp, hd⟩ := h
  unfold f_X5_takes f_X9_isGood
  rw [if_neg (by decide), if_neg (by decide), if_neg (by decide), if_neg (by decide), if_neg (by decide), if_pos (by decide), h1, h2, pv, if_neg (by decide), if_neg (by decide), if_neg (by decide), if_neg (by decide), if_pos (by decide), pb1 rfl, pw_k n_4 (by omega : 4 < 6) (by omega), if_neg (by decide), if_pos (by decide)]
  unfold f_X5_takesBoy
  rw [n_1000, if_pos (by rw [n_lt (by omega) (by omega)]; omega), pv, pb2 rfl, po1]
  refine ⟨1, _, _, rfl, rfl, same_3 _ _ (by omega), rfl, Or.inr ⟨rfl, ns pl 10 0 x, ?_, ?_, ?_⟩⟩
  · obtain ⟨⟨a1, a2, a3, a4, a5, a6, a7⟩, b, d, e⟩ := hw
    exact ⟨⟨a1, a2, a3, a4, hx, a6, a7⟩, b, d, e⟩
  · obtain ⟨⟨a1, a2, a3, a4, a5, a6⟩, b, d, e⟩ := hp
    exact ⟨⟨a1, a2, a3, a4, rfl, a6⟩, b, d, e⟩
  · obtain ⟨⟨a1, a2, a3, a4, a5, a6⟩, b, d, e⟩ := hd
    exact ⟨⟨a1, a2, a3, a4, rfl, a6⟩, b, d, e⟩
theorem t_bolt {P M Q : zMm} (h : iDD P M) {x : Nat} (hx : x ≤ 999) (h1 : Q 0 0 = nI x) (h2 : M 22 0 = nI x) : iQ P M (f_X5_takes P Q (nI 99)) (f_X9_isGood M (nI 99)) := by
  obtain ⟨pl, hw, hp, hd⟩ := h
  unfold f_X5_takes f_X9_isGood
  rw [if_pos (by decide), h1, h2, pv, if_neg (by decide), if_neg (by decide), if_neg (by decide), if_neg (by decide), if_neg (by decide), pb1 rfl, pw_k n_5 (by omega : 5 < 6) (by omega), if_neg (by decide), if_neg (by decide)]
  unfold f_X5_takesBolt
  by_cases c : 1 ≤ x
  · rw [n_1, if_pos (by rw [n_le (by omega) (by omega)]; exact c), pv, pb2 rfl, ← n_1, po1, n_0, if_neg (by rw [n_le (by omega) (by omega)]; omega)]
    refine ⟨1, _, _, rfl, rfl, same_3 _ _ (by omega), rfl, Or.inr ⟨rfl, ns pl 11 0 x, ?_, ?_, ?_⟩⟩
    · obtain ⟨⟨a1, a2, a3, a4, a5, a6, a7⟩, b, d, e⟩ := hw
      exact ⟨⟨a1, a2, a3, a4, a5, c, hx⟩, b, d, e⟩
    · obtain ⟨⟨a1, a2, a3, a4, a5, a6⟩, b, d, e⟩ := hp
      exact ⟨⟨a1, a2, a3, a4, a5, rfl⟩, b, d, e⟩
    · obtain ⟨⟨a1, a2, a3, a4, a5, a6⟩, b, d, e⟩ := hd
      exact ⟨⟨a1, a2, a3, a4, a5, rfl⟩, b, d, e⟩
  · rw [n_1, if_neg (by rw [n_le (by omega) (by omega)]; exact c), pb2 rfl, po0, n_0, if_pos (by rw [n_le (by omega) (by omega)]; omega)]
    exact ⟨0, _, _, rfl, rfl, same_3 _ _ (by omega), rfl, Or.inl rfl⟩
theorem t_tailor {P M Q : zMm} (h : iDD P M) {x : Nat} (hx : x ≤ 999) (h1 : Q 0 0 = nI x) (h2 : M 22 0 = nI x) : iQ P M (f_X5_takes P Q (nI 116)) (f_X9_isGood M (nI 116)) := by
  obtain ⟨pl, hw, hp, hd⟩ := h
  obtain ⟨⟨w1, w2, w3, w4, w5, w6, w7⟩, wb, wd, we⟩ := hw
  obtain ⟨⟨p1, p2, p3, p4, p5, p6⟩, pb, pd, pe⟩ := hp
  obtain ⟨⟨d1, d2, d3, d4, d5, d6⟩, db, dd, de⟩ := hd
  have t80 : (80 : Int64).toInt = 80 := rfl
  have t120 : (120 : Int64).toInt = 120 := rfl
  unfold f_X5_takes f_X9_isGood
  rw [if_neg (by decide), if_neg (by decide), if_neg (by decide), if_neg (by decide), if_pos (by decide), h1, h2, pv, if_pos (by decide)]
  unfold f_X5_takesTailor
  rw [p1, d1]
  by_cases c1 : 80 ≤ x ∧ x ≤ 120
  · rw [pb1 (in_y (tL _) t80 t120 (by rw [nT (by omega)]; omega) (by rw [nT (by omega)]; omega)), if_neg i10]
    by_cases c2 : 6 ≤ pl 6 0
    · rw [n_6, if_pos (by rw [n_le (by omega) (by omega)]; exact c2), pb2 rfl, po0, if_pos (by rw [n_eq (by omega) (by omega)]; omega)]
      exact ⟨0, _, _, rfl, rfl, same_r _, rfl, Or.inl rfl⟩
    · rw [n_6, if_neg (by rw [n_le (by omega) (by omega)]; exact c2), if_neg (show ¬ nI x < 80 by rw [n_80, n_lt (by omega) (by omega)]; omega), if_pos (show nI x ≤ 120 by rw [n_120, n_le (by omega) (by omega)]; omega), pw_k rfl (by omega) (by omega), pv, pb2 rfl, po1, if_neg (by rw [n_eq (by omega) (by omega)]; omega), n_add, pw_k rfl (by omega) (by omega), pv]
      refine ⟨1, _, _, rfl, rfl, same_t (same_5 _ _ (by omega)) (same_4 _ _), rfl, Or.inr ⟨rfl, ns (ns pl 0 (pl 6 0) x) 6 0 (pl 6 0 + 1), ?_, ?_, ?_⟩⟩
      · refine ⟨⟨?_, w2, w3, w4, w5, w6, w7⟩, fun i hi => ?_, fun i hi => ?_, we⟩
        · rw [ns_s]; omega
        · rw [ns_s] at hi
          rw [ns_r _ _ _ _ (by decide)]
          by_cases e : i = pl 6 0
          · rw [e, ns_s]; omega
          · rw [ns_n _ _ _ _ e]; exact wb i (by omega)
        · rw [ns_s]
          have q := wd i hi
          exact ⟨Nat.lt_succ_of_lt q.1, q.2⟩
      · refine ⟨⟨?_, p2, p3, p4, p5, p6⟩, fun i hi => ?_, pd, pe⟩
        · rw [zs_s, zs_n _ _ (by decide), p1, n_1, n_add, ns_s]
        · rw [ns_s] at hi
          rw [ns_r _ _ _ _ (by decide), zs_n _ _ (by decide), zs_s]
          by_cases e : i = pl 6 0
          · rw [e, ns_s, up_s]
          · rw [ns_n _ _ _ _ e, up_n _ _ e]; exact pb i (by omega)
      · refine ⟨⟨?_, d2, d3, d4, d5, d6⟩, fun i hi => ?_, dd, de⟩
        · rw [zs_s, up_s, zs_n _ _ (by decide), d1, n_1, n_add, ns_s]
        · rw [ns_s] at hi
          rw [ns_r _ _ _ _ (by decide), zs_n _ _ (by decide), zs_s]
          by_cases e : i = pl 6 0
          · rw [e, ns_s, up_s]
          · rw [ns_n _ _ _ _ e, up_n _ _ (by omega)]; exact db i (by omega)
  · rw [pb1 (in_n (tL _) t80 t120 (by rw [nT (by omega)]; omega)), if_pos rfl]
    refine ⟨0, P, _, ?_, rfl, same_r _, rfl, Or.inl rfl⟩
    by_cases c2 : 6 ≤ pl 6 0
    · rw [n_6, if_pos (by rw [n_le (by omega) (by omega)]; exact c2), pb2 rfl, po0]
    · rw [n_6, if_neg (by rw [n_le (by omega) (by omega)]; exact c2)]
      by_cases c3 : x < 80
      · rw [if_pos (show nI x < 80 by rw [n_80, n_lt (by omega) (by omega)]; omega), pb2 rfl, po0]
      · rw [if_neg (show ¬ nI x < 80 by rw [n_80, n_lt (by omega) (by omega)]; omega), if_neg (show ¬ nI x ≤ 120 by rw [n_120, n_le (by omega) (by omega)]; omega), pb2 rfl, po0]
theorem hasT {P : zMm} {n x : Nat} (h : P 6 0 = nI n) (hn : n ≤ 6) (hx : x ≤ 999) : f_X5_hasTailor P (nI x) = some (if x < n then 1 else 0) := by
  unfold f_X5_hasTailor
  rw [if_neg (nn0 (by omega)), h]
  by_cases c : n ≤ x
  · rw [if_pos (by rw [n_le (by omega) (by omega)]; exact c), if_neg (by omega)]
  · rw [if_neg (by rw [n_le (by omega) (by omega)]; exact c), if_pos (by omega)]
theorem hasP {P : zMm} {n x : Nat} (h : P 7 0 = nI n) (hn : n ≤ 7) (hx : x ≤ 999) : f_X5_hasPart P (nI x) = some (if x < n then 1 else 0) := by
  unfold f_X5_hasPart
  rw [if_neg (nn0 (by omega)), h]
  by_cases c : n ≤ x
  · rw [if_pos (by rw [n_le (by omega) (by omega)]; exact c), if_neg (by omega)]
  · rw [if_neg (by rw [n_le (by omega) (by omega)]; exact c), if_pos (by omega)]
theorem t_seam {P M Q : zMm} (h : iDD P M) {x y : Nat} (hx : x ≤ 999) (hy : y ≤ 999) (h1 : Q 0 0 = nI x) (h2 : M 22 0 = nI x) (h3 : Q 0 1 = nI y) (h4 : M 22 1 = nI y) : iQ P M (f_X5_takes P Q (nI 115)) (f_X9_isGood M (nI 115)) := by
  obtain ⟨pl, hw, hp, hd⟩ := h
  obtain ⟨⟨w1, w2, w3, w4, w5, w6, w7⟩, wb, wd, we⟩ := hw
  obtain ⟨⟨p1, p2, p3, p4, p5, p6⟩, pb, pd, pe⟩ := hp
  obtain ⟨⟨d1, d2, d3, d4, d5, d6⟩, db, dd, de⟩ := hd
  unfold f_X5_takes f_X9_isGood
  rw [if_neg (by decide), if_neg (by decide), if_neg (by decide), if_pos (by decide), h1, h2, h3, pv, if_neg (by decide), if_neg (by decide), if_pos (by decide), h4, d2, d3]
  unfold f_X5_takesSeam
  rw [p3]
  have f8 : ∀ g, zs M 9 g 8 1 = nI (pl 8 0) := fun g => d3
  have f22 : ∀ g, zs M 9 g 22 1 = nI y := fun g => h4
  by_cases c1 : x < pl 7 0 ∧ y < pl 7 0 ∧ ¬ x = y ∧ pl 8 0 < 10
  · rw [if_neg (show ¬ (10 : Int32) ≤ nI (pl 8 0) by rw [n_10, n_le (by omega) (by omega)]; omega), pb1 (hasP p2 w2 hx), if_pos c1.1, if_neg i10, pb1 (hasP p2 w2 hy), if_pos c1.2.1, if_neg i10, if_neg (show ¬ nI x = nI y by rw [n_eq (by omega) (by omega)]; exact c1.2.2.1), pw_k rfl (by omega) (by omega), zs_n _ _ (by decide), p3, pw_k rfl (by omega) (by omega), pv, pb2 rfl, po1, if_neg (show ¬ nI (pl 7 0) ≤ nI x by rw [n_le (by omega) (by omega)]; omega), if_neg (show ¬ nI (pl 7 0) ≤ nI y by rw [n_le (by omega) (by omega)]; omega), if_neg (show ¬ nI x = nI y by rw [n_eq (by omega) (by omega)]; exact c1.2.2.1), if_neg (show ¬ nI (pl 8 0) = 10 by rw [n_10, n_eq (by omega) (by omega)]; omega), n_20, n_2, n_mul, n_add, pw_k rfl (by omega) (by omega), f8, n_21, n_mul, n_add, pw_k rfl (by omega) (by omega), f22, pv]
    refine ⟨1, _, _, rfl, rfl, same_t (same_9 _ _ (by omega)) (same_t (same_9 _ _ (by omega)) (same_8 _ _)), rfl, Or.inr ⟨rfl, ns (ns (ns pl 4 (pl 8 0) x) 5 (pl 8 0) y) 8 0 (pl 8 0 + 1), ?_, ?_, ?_⟩⟩
    · refine ⟨⟨w1, w2, ?_, w4, w5, w6, w7⟩, wb, wd, fun i hi => ?_⟩
      · rw [ns_s]; omega
      · rw [ns_s] at hi
        show ns pl 4 (pl 8 0) x 4 i < pl 7 0 ∧ ns pl 5 (pl 8 0) y 5 i < pl 7 0 ∧ ¬ ns pl 4 (pl 8 0) x 4 i = ns pl 5 (pl 8 0) y 5 i
        by_cases e : i = pl 8 0
        · rw [e, ns_s, ns_s]; exact ⟨c1.1, c1.2.1, c1.2.2.1⟩
        · rw [ns_n _ _ _ _ e, ns_n _ _ _ _ e]; exact we i (by omega)
    · refine ⟨⟨p1, p2, ?_, p4, p5, p6⟩, pb, pd, fun i hi => ?_⟩
      · rw [zs_s, zs_n _ _ (by decide), zs_n _ _ (by decide), p3, n_1, n_add, ns_s]
      · rw [ns_s] at hi
        rw [ns_r _ _ _ _ (by decide), ns_r _ _ _ _ (by decide), ns_r _ _ _ _ (by decide : 5 ≠ 8)]
        show upd (P 4) (pl 8 0) (nI x) i = _ ∧ upd (P 5) (pl 8 0) (nI y) i = _
        by_cases e : i = pl 8 0
        · rw [e, ns_s, ns_s, up_s, up_s]; exact ⟨rfl, rfl⟩
        · rw [ns_n _ _ _ _ e, ns_n _ _ _ _ e, ns_n _ _ _ _ e, up_n _ _ e, up_n _ _ e]; exact pe i (by omega)
    · refine ⟨⟨d1, d2, ?_, d4, d5, d6⟩, db, dd, fun i hi => ?_⟩
      · rw [zs_s, up_s, zs_n _ _ (by decide), zs_n _ _ (by decide), d3, n_1, n_add, ns_s]
      · rw [ns_s] at hi
        rw [ns_r _ _ _ _ (by decide), ns_r _ _ _ _ (by decide), ns_r _ _ _ _ (by decide : 5 ≠ 8), zs_n _ _ (by decide), zs_s, zs_s]
        by_cases e : i = pl 8 0
        · rw [e, ns_s, ns_s, up_s, up_n _ _ (by omega), up_s]; exact ⟨rfl, rfl⟩
        · rw [ns_n _ _ _ _ e, ns_n _ _ _ _ e, ns_n _ _ _ _ e, up_n _ _ (by omega), up_n _ _ (by omega), up_n _ _ (by omega), up_n _ _ (by omega)]; exact de i (by omega)
  · refine ⟨0, P, M, ?_, ?_, same_r _, rfl, Or.inl rfl⟩
    · by_cases e1 : 10 ≤ pl 8 0
      · rw [if_pos (show (10 : Int32) ≤ nI (pl 8 0) by rw [n_10, n_le (by omega) (by omega)]; omega), pb2 rfl, po0]
      · rw [if_neg (show ¬ (10 : Int32) ≤ nI (pl 8 0) by rw [n_10, n_le (by omega) (by omega)]; omega), pb1 (hasP p2 w2 hx)]
        by_cases e2 : x < pl 7 0
        · rw [if_pos e2, if_neg i10, pb1 (hasP p2 w2 hy)]
          by_cases e3 : y < pl 7 0
          · rw [if_pos e3, if_neg i10, if_pos (show nI x = nI y by rw [n_eq (by omega) (by omega)]; omega), pb2 rfl, po0]
          · rw [if_neg e3, if_pos rfl, pb2 rfl, po0]
        · rw [if_neg e2, if_pos rfl, pb2 rfl, po0]
    · by_cases e2 : x < pl 7 0
      · rw [if_neg (show ¬ nI (pl 7 0) ≤ nI x by rw [n_le (by omega) (by omega)]; omega)]
        by_cases e3 : y < pl 7 0
        · rw [if_neg (show ¬ nI (pl 7 0) ≤ nI y by rw [n_le (by omega) (by omega)]; omega)]
          by_cases e4 : x = y
          · rw [if_pos (show nI x = nI y by rw [e4])]
          · rw [if_neg (show ¬ nI x = nI y by rw [n_eq (by omega) (by omega)]; exact e4), if_pos (show nI (pl 8 0) = 10 by rw [n_10, n_eq (by omega) (by omega)]; omega)]
        · rw [if_pos (show nI (pl 7 0) ≤ nI y by rw [n_le (by omega) (by omega)]; omega)]
      · rw [if_pos (show nI (pl 7 0) ≤ nI x by rw [n_le (by omega) (by omega)]; omega)]
theorem cp3 {M : zMm} {n x y z : Nat} (l1 l2 : Int32) (h : M 6 1 = nI n) (hn : n < 7) (h0 : M 22 0 = nI x) (h1 : M 22 1 = nI y) (h2 : M 22 2 = nI z) : L_X9_isGood_128 l1 l2 100000 0 M = some (3, zs M 7 (upd (upd (upd (M 7) (21 + 3 * n) (nI x)) (21 + 3 * n + 1) (nI y)) (21 + 3 * n + 2) (nI z))) := by
  have f6 : ∀ g, zs M 7 g 6 1 = nI n := fun g => h
  have f1 : ∀ g, zs M 7 g 22 1 = nI y := fun g => h1
  have f2 : ∀ g, zs M 7 g 22 2 = nI z := fun g => h2
  have s1 : (0 : Int32) + 1 = 1 := rfl
  have s2 : (1 : Int32) + 1 = 2 := rfl
  have s3 : (2 : Int32) + 1 = 3 := rfl
  have k0 : (21 : Int32) + (3 : Int32) * nI n + 0 = nI (21 + 3 * n) := by rw [n_21, n_3, n_0, n_mul, n_add, n_add]; rfl
  have k1 : (21 : Int32) + (3 : Int32) * nI n + 1 = nI (21 + 3 * n + 1) := by rw [n_21, n_3, n_1, n_mul, n_add, n_add]
  have k2 : (21 : Int32) + (3 : Int32) * nI n + 2 = nI (21 + 3 * n + 2) := by rw [n_21, n_3, n_2, n_mul, n_add, n_add]
  rw [L_X9_isGood_128, if_neg (by decide), pl_k n_0 (by omega : 0 < 3) (by omega), h0, h, k0, pw_k rfl (by omega) (by omega), pv, s1,
    L_X9_isGood_128, if_neg (by decide), pl_k n_1 (by omega : 1 < 3) (by omega), f1, f6, k1, pw_k rfl (by omega) (by omega), pv, s2, zs_s, zs_zs,
    L_X9_isGood_128, if_neg (by decide), pl_k n_2 (by omega : 2 < 3) (by omega), f2, f6, k2, pw_k rfl (by omega) (by omega), pv, s3, zs_s, zs_zs,
    L_X9_isGood_128, if_pos (by decide)]
theorem t_part {P M Q : zMm} (h : iDD P M) {x y z : Nat} (hx : x ≤ 999) (hy : y ≤ 999) (hz : z ≤ 999) (h1 : Q 0 0 = nI x) (h2 : M 22 0 = nI x) (h3 : Q 0 1 = nI y) (h4 : M 22 1 = nI y) (h5 : Q 0 2 = nI z) (h6 : M 22 2 = nI z) : iQ P M (f_X5_takes P Q (nI 112)) (f_X9_isGood M (nI 112)) := by
  obtain ⟨pl, hw, hp, hd⟩ := h
  obtain ⟨⟨w1, w2, w3, w4, w5, w6, w7⟩, wb, wd, we⟩ := hw
  obtain ⟨⟨p1, p2, p3, p4, p5, p6⟩, pb, pd, pe⟩ := hp
  obtain ⟨⟨d1, d2, d3, d4, d5, d6⟩, db, dd, de⟩ := hd
  have t10 : (10 : Int64).toInt = 10 := rfl
  have t199 : (199 : Int64).toInt = 199 := rfl
  unfold f_X5_takes f_X9_isGood
  rw [if_neg (by decide), if_neg (by decide), if_pos (by decide), h1, h2, h3, h5, pv, if_neg (by decide), if_pos (by decide), h4, h6, d1, d2]
  unfold f_X5_takesPart
  rw [p2]
  by_cases c1 : x < pl 6 0 ∧ 10 ≤ y ∧ y ≤ 199 ∧ z ≤ 99 ∧ pl 7 0 < 7
  · have f7 : ∀ g, zs P 1 g 7 0 = nI (pl 7 0) := fun g => p2
    have f7' : ∀ g g', zs (zs P 1 g) 2 g' 7 0 = nI (pl 7 0) := fun g g' => p2
    rw [if_neg (show ¬ (7 : Int32) ≤ nI (pl 7 0) by rw [n_7, n_le (by omega) (by omega)]; omega), pb1 (hasT p1 w1 hx), if_pos c1.1, if_neg i10, if_neg (show ¬ nI y < 10 by rw [n_10, n_lt (by omega) (by omega)]; omega), if_neg (show ¬ (199 : Int32) < nI y by rw [n_199, n_lt (by omega) (by omega)]; omega), if_pos (show nI z ≤ 99 by rw [n_99, n_le (by omega) (by omega)]; omega), pw_k rfl (by omega) (by omega), f7, pw_k rfl (by omega) (by omega), f7', pw_k rfl (by omega) (by omega), pv, pb2 rfl, po1, if_neg (show ¬ nI (pl 6 0) ≤ nI x by rw [n_le (by omega) (by omega)]; omega), pb1 (in_y (tL _) t10 t199 (by rw [nT (by omega)]; omega) (by rw [nT (by omega)]; omega)), if_neg i10, if_neg (show ¬ (99 : Int32) < nI z by rw [n_99, n_lt (by omega) (by omega)]; omega), if_neg (show ¬ nI (pl 7 0) = 7 by rw [n_7, n_eq (by omega) (by omega)]; omega), pb2 (cp3 _ _ d2 c1.2.2.2.2 h2 h4 h6), pv]
    refine ⟨1, _, _, rfl, rfl, same_t (B := zs M 7 (upd (upd (upd (M 7) (21 + 3 * pl 7 0) (nI x)) (21 + 3 * pl 7 0 + 1) (nI y)) (21 + 3 * pl 7 0 + 2) (nI z))) ⟨fun j x y => zs_n _ _ (by omega), rfl, rfl, rfl, fun _ _ => rfl, fun _ _ => rfl, fun i h => by rw [zs_s, up_n _ _ (by omega), up_n _ _ (by omega), up_n _ _ (by omega)], fun _ _ => rfl⟩ (same_6 _ _), rfl, Or.inr ⟨rfl, ns (ns (ns (ns pl 1 (pl 7 0) x) 2 (pl 7 0) y) 3 (pl 7 0) z) 7 0 (pl 7 0 + 1), ?_, ?_, ?_⟩⟩
    · refine ⟨⟨w1, ?_, w3, w4, w5, w6, w7⟩, wb, fun i hi => ?_, fun i hi => ?_⟩
      · rw [ns_s]; omega
      · rw [ns_s] at hi
        show ns pl 1 (pl 7 0) x 1 i < pl 6 0 ∧ 10 ≤ ns pl 2 (pl 7 0) y 2 i ∧ ns pl 2 (pl 7 0) y 2 i ≤ 199 ∧ ns pl 3 (pl 7 0) z 3 i ≤ 99
        by_cases e : i = pl 7 0
        · rw [e, ns_s, ns_s, ns_s]; exact ⟨c1.1, c1.2.1, c1.2.2.1, c1.2.2.2.1⟩
        · rw [ns_n _ _ _ _ e, ns_n _ _ _ _ e, ns_n _ _ _ _ e]; exact wd i (by omega)
      · have q := we i hi
        rw [ns_s]
        exact ⟨Nat.lt_succ_of_lt q.1, Nat.lt_succ_of_lt q.2.1, q.2.2⟩
    · refine ⟨⟨p1, ?_, p3, p4, p5, p6⟩, pb, fun i hi => ?_, pe⟩
      · rw [ns_s]
        show P 7 0 + 1 = _
        rw [p2, n_1, n_add]
      · rw [ns_s] at hi
        show upd (P 1) (pl 7 0) (nI x) i = nI (ns pl 1 (pl 7 0) x 1 i) ∧ upd (P 2) (pl 7 0) (nI y) i = nI (ns pl 2 (pl 7 0) y 2 i) ∧ upd (P 3) (pl 7 0) (nI z) i = nI (ns pl 3 (pl 7 0) z 3 i)
        by_cases e : i = pl 7 0
        · rw [e, ns_s, ns_s, ns_s, up_s, up_s, up_s]; exact ⟨rfl, rfl, rfl⟩
        · rw [ns_n _ _ _ _ e, ns_n _ _ _ _ e, ns_n _ _ _ _ e, up_n _ _ e, up_n _ _ e, up_n _ _ e]; exact pd i (by omega)
    · refine ⟨⟨d1, ?_, d3, d4, d5, d6⟩, db, fun i hi => ?_, de⟩
      · rw [ns_s, zs_s, up_s]
        show M 6 1 + 1 = _
        rw [d2, n_1, n_add]
      · rw [ns_s] at hi
        rw [zs_n _ _ (by decide), zs_s]
        show _ = nI (ns pl 1 (pl 7 0) x 1 i) ∧ _ = nI (ns pl 2 (pl 7 0) y 2 i) ∧ _ = nI (ns pl 3 (pl 7 0) z 3 i)
        by_cases e : i = pl 7 0
        · rw [e, ns_s, ns_s, ns_s, up_s]
          refine ⟨?_, ?_, rfl⟩
          · rw [up_n _ _ (by omega), up_n _ _ (by omega), up_s]
          · rw [up_n _ _ (by omega), up_s]
        · rw [ns_n _ _ _ _ e, ns_n _ _ _ _ e, ns_n _ _ _ _ e]
          have q := dd i (by omega)
          refine ⟨?_, ?_, ?_⟩
          · rw [up_n _ _ (by omega), up_n _ _ (by omega), up_n _ _ (by omega)]; exact q.1
          · rw [up_n _ _ (by omega), up_n _ _ (by omega), up_n _ _ (by omega)]; exact q.2.1
          · rw [up_n _ _ (by omega), up_n _ _ (by omega), up_n _ _ (by omega)]; exact q.2.2
  · refine ⟨0, P, M, ?_, ?_, same_r _, rfl, Or.inl rfl⟩
    · by_cases e1 : 7 ≤ pl 7 0
      · rw [if_pos (show (7 : Int32) ≤ nI (pl 7 0) by rw [n_7, n_le (by omega) (by omega)]; omega), pb2 rfl, po0]
      · rw [if_neg (show ¬ (7 : Int32) ≤ nI (pl 7 0) by rw [n_7, n_le (by omega) (by omega)]; omega), pb1 (hasT p1 w1 hx)]
        by_cases e2 : x < pl 6 0
        · rw [if_pos e2, if_neg i10]
          by_cases e3 : y < 10
          · rw [if_pos (show nI y < 10 by rw [n_10, n_lt (by omega) (by omega)]; omega), pb2 rfl, po0]
          · rw [if_neg (show ¬ nI y < 10 by rw [n_10, n_lt (by omega) (by omega)]; omega)]
            by_cases e4 : 199 < y
            · rw [if_pos (show (199 : Int32) < nI y by rw [n_199, n_lt (by omega) (by omega)]; omega), pb2 rfl, po0]
            · rw [if_neg (show ¬ (199 : Int32) < nI y by rw [n_199, n_lt (by omega) (by omega)]; omega), if_neg (show ¬ nI z ≤ 99 by rw [n_99, n_le (by omega) (by omega)]; omega), pb2 rfl, po0]
        · rw [if_neg e2, if_pos rfl, pb2 rfl, po0]
    · by_cases e2 : x < pl 6 0
      · rw [if_neg (show ¬ nI (pl 6 0) ≤ nI x by rw [n_le (by omega) (by omega)]; omega)]
        by_cases e3 : 10 ≤ y ∧ y ≤ 199
        · rw [pb1 (in_y (tL _) t10 t199 (by rw [nT (by omega)]; omega) (by rw [nT (by omega)]; omega)), if_neg i10]
          by_cases e4 : 99 < z
          · rw [if_pos (show (99 : Int32) < nI z by rw [n_99, n_lt (by omega) (by omega)]; omega)]
          · rw [if_neg (show ¬ (99 : Int32) < nI z by rw [n_99, n_lt (by omega) (by omega)]; omega), if_pos (show nI (pl 7 0) = 7 by rw [n_7, n_eq (by omega) (by omega)]; omega)]
        · rw [pb1 (in_n (tL _) t10 t199 (by rw [nT (by omega)]; omega)), if_pos rfl]
      · rw [if_pos (show nI (pl 6 0) ≤ nI x by rw [n_le (by omega) (by omega)]; omega)]
