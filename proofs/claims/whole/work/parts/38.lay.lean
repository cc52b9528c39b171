theorem inv_same {X M M2 : zMm} (h : Inv X M) (g : iSame M M2) : Inv X M2 := by
  obtain ⟨pl, t, h1, h2, h3, h4, h5, h6, ⟨dn, nx, h7⟩, ⟨kn, kx, h8⟩, ⟨sn, h9⟩, ⟨pn, ps, h10⟩, h11, h12⟩ := h
  obtain ⟨g0, g4, g6, g8, s3, s5, s7, s9⟩ := g
  have hg : ∀ j, j ≤ 1 ∨ 10 ≤ j ∧ j ≤ 16 → M2 j = M j := fun j hj => g0 j (by omega) (by omega)
  refine ⟨pl, t, h1, h2, h3, ?_, ?_, ?_, ⟨dn, nx, ?_⟩, ⟨kn, kx, ?_⟩, ⟨sn, ?_⟩, ⟨pn, ps, ?_⟩, h11, h12⟩
  · obtain ⟨⟨w1, w2, w3, _⟩, _⟩ := h1
    unfold iPlM at h4 ⊢
    rw [g4, g6, g8, s3 0 (by omega), s3 1 (by omega), s3 2 (by omega)]
    refine ⟨h4.1, fun i hi => ?_, fun i hi => ?_, fun i hi => ?_⟩
    · rw [s5 i (by omega)]; exact h4.2.1 i hi
    · rw [s7 _ (by omega), s7 _ (by omega), s7 _ (by omega)]; exact h4.2.2.1 i hi
    · rw [s9 _ (by omega), s9 _ (by omega)]; exact h4.2.2.2 i hi
  · unfold iTxt at h5 ⊢
    rw [hg 0 (by omega), hg 1 (by omega)]
    exact h5
  · rw [hg 10 (by omega)]
    exact h6
  · unfold iUn at h7 ⊢
    rw [hg 10 (by omega), hg 12 (by omega)]
    exact h7
  · unfold iKp at h8 ⊢
    rw [hg 10 (by omega), hg 11 (by omega)]
    exact h8
  · unfold iSe at h9 ⊢
    rw [hg 13 (by omega), hg 14 (by omega)]
    exact h9
  · unfold iPi at h10 ⊢
    rw [hg 15 (by omega), hg 16 (by omega)]
    exact h10
def pl0 : zN := fun a b => if a = 9 ∧ b = 0 then 1 else if a = 11 ∧ b = 0 then 300 else 0
theorem wf0 : iWF pl0 := ⟨⟨by decide, by decide, by decide, by decide, by decide, by decide, by decide⟩, fun i hi => absurd hi (Nat.not_lt_zero _), fun i hi => absurd hi (Nat.not_lt_zero _), fun i hi => absurd hi (Nat.not_lt_zero _)⟩
theorem rdB {X M : zMm} {t : Nat} (h : iTxt X M t) (P : zMm) : ∃ r X2 P2 M2, f_X7_readInto X P = some (r, X2, P2) ∧ f_X9_fault M = some (r, M2) ∧ (∀ j, j ≠ 1 → X2 j = X j) ∧ iSame M M2 ∧ (r = -4 ∧ iDD P2 M2 ∨ ∃ e, r = nI e ∧ e < 300) := by
  obtain ⟨c, hc⟩ := iTc_of h
  unfold f_X7_readInto f_X9_fault f_X5_clear f_X9_begins
  simp only [pv]
  rw [pb1 rfl, pb1 rfl]
  have hS : iSame M (zs (zs (zs (zs (zs (zs (zs M 2 (fun _ => 0)) 4 (upd ((zs M 2 (fun _ => 0)) 4) 1 0)) 6 (upd (M 6) 1 0)) 8 (upd (M 8) 1 0)) 3 (upd (M 3) 3 1)) 3 (upd (upd (M 3) 3 1) 4 0)) 3 (upd (upd (upd (M 3) 3 1) 4 0) 5 300)) :=
    same_t (same_f (M := M) (M2 := zs M 2 (fun _ => 0)) (fun j a b => zs_n _ _ a)) (same_t (same_4 _ _) (same_t (same_6 _ _) (same_t (same_8 _ _) (same_t (same_3 _ _ (by omega)) (same_t (same_3 _ _ (by omega)) (same_3 _ _ (by omega)))))))
  have hD : iDD (zs (zs (zs (zs (zs (zs P 6 (fun _ => 0)) 7 (fun _ => 0)) 8 (fun _ => 0)) 9 (fun _ => 1)) 10 (fun _ => 0)) 11 (fun _ => 300)) (zs (zs (zs (zs (zs (zs (zs M 2 (fun _ => 0)) 4 (upd ((zs M 2 (fun _ => 0)) 4) 1 0)) 6 (upd (M 6) 1 0)) 8 (upd (M 8) 1 0)) 3 (upd (M 3) 3 1)) 3 (upd (upd (M 3) 3 1) 4 0)) 3 (upd (upd (upd (M 3) 3 1) 4 0) 5 300)) := ⟨pl0, wf0, ⟨⟨rfl, rfl, rfl, rfl, rfl, rfl⟩, fun i hi => absurd hi (Nat.not_lt_zero _), fun i hi => absurd hi (Nat.not_lt_zero _), fun i hi => absurd hi (Nat.not_lt_zero _)⟩, ⟨⟨rfl, rfl, rfl, rfl, rfl, rfl⟩, fun i hi => absurd hi (Nat.not_lt_zero _), fun i hi => absurd hi (Nat.not_lt_zero _), fun i hi => absurd hi (Nat.not_lt_zero _)⟩⟩
  have ht := h.1
  obtain ⟨r, X2, P2, M2, g1, g2, g3, g4, g5⟩ := f_loop t 0 0 100000 100000 X _ _ (by exact iTc_fr hc rfl rfl rfl rfl) hD (by rfl) (by omega) (by omega) (by omega) (by omega)
  exact ⟨r, X2, P2, M2, g1, g2, g3, same_t hS g4, g5⟩
theorem zp_lo (X Q P : zMm) {j : Nat} (h : j < 3) : zp (zp X 0 3 Q) 47 12 P j = Q j := by
  rcases (show j = 0 ∨ j = 1 ∨ j = 2 by omega) with rfl | rfl | rfl <;> rfl
theorem zp_mid (X Q P : zMm) {j : Nat} (h1 : 3 ≤ j) (h2 : j < 47) : zp (zp X 0 3 Q) 47 12 P j = X j := by
  have e : Nat.ble 47 j = false := by
    cases hq : Nat.ble 47 j with
    | false => rfl
    | true => exact absurd (Nat.le_of_ble_eq_true hq) (by omega)
  have e2 : Nat.blt j (0 + 3) = false := by
    cases hq : Nat.blt j (0 + 3) with
    | false => rfl
    | true => exact absurd (Nat.le_of_ble_eq_true hq) (by omega)
  unfold zp
  rw [e, e2, Bool.false_and, Bool.and_false]
  rfl
theorem uX_lt {j : Nat} (h : uX j = true) : j < 47 ∧ j ≠ 1 := by
  by_cases c : j < 47
  · refine ⟨c, fun e => ?_⟩
    rw [e] at h
    exact absurd h (by decide)
  · exfalso
    unfold uX at h
    simp at h
    omega
theorem inv_rd {X M X2 P2 M2 : zMm} (h : Inv X M) (g : ∀ j, j ≠ 1 → X2 j = X j) (s : iSame M M2) : Inv (zp (zp X 0 3 X2) 47 12 P2) M2 := by
  refine inv_fr (inv_same h s) (fun j hj => ?_) (fun j _ => rfl)
  obtain ⟨a, b⟩ := uX_lt hj
  by_cases c : j < 3
  · rw [zp_lo _ _ _ c, g j b]
  · rw [zp_mid _ _ _ (by omega) a]
theorem q_fault {X M : zMm} (h : Inv X M) : ∃ r X2 M2, f_X8_fault X = some (r, X2) ∧ f_X9_fault M = some (r, M2) ∧ Inv X2 M2 := by
  obtain ⟨pl, t, _, _, _, _, h5, _⟩ := id h
  obtain ⟨r, X2, P2, M2, g1, g2, g3, g4, _⟩ := rdB h5 (fun j => X (47 + j))
  unfold f_X8_fault
  rw [pb3 g1, pv]
  exact ⟨r, _, M2, rfl, g2, inv_rd h g3 g4⟩
def iCp (n b k : Nat) (f g : Nat → Int32) : Prop := (∀ i, i < k → g i = f i) ∧ (∀ i, k ≤ i → i < n → g i = f (b + i)) ∧ ∀ i, b ≤ i → g i = f i
theorem cp_0 (n b : Nat) {k : Nat} (f : Nat → Int32) (h : n ≤ k) : iCp n b k f f := ⟨fun _ _ => rfl, fun i a c => by omega, fun _ _ => rfl⟩
theorem cp_s {n b k : Nat} {f g : Nat → Int32} (hb : n ≤ b) (hk : k < n) (h : iCp n b (k + 1) (upd f k (f (b + k))) g) : iCp n b k f g := by
  obtain ⟨h1, h2, h3⟩ := h
  refine ⟨fun i hi => ?_, fun i a c => ?_, fun i hi => ?_⟩
  · rw [h1 i (by omega), up_n _ _ (by omega)]
  · by_cases e : i = k
    · rw [e, h1 k (by omega), up_s]
    · rw [h2 i (by omega) c, up_n _ _ (by omega)]
  · rw [h3 i hi, up_n _ _ (by omega)]
theorem cp_d {n b k : Nat} {f g : Nat → Int32} (hk : n ≤ k) (h : iCp n b (k + 1) f g) : iCp n b k f g := by
  obtain ⟨h1, h2, h3⟩ := h
  exact ⟨fun i hi => h1 i (by omega), fun i a c => by omega, h3⟩
theorem tk_step (n b j k : Nat) (M : zMm) (l1 : Int32) (hl : l1 = nI k) (hk : k < 21) (N : Int32) (hN : N = nI n) (B : Int32) (hB : B = nI b) (S : Nat) (hS : S = b + n) (hS2 : S < 100) (hb : n ≤ b) : ∃ g, (if N ≤ l1 then some M else zl S (M j) (B + l1) (fun v => zw S M j l1 v (fun M_12 => some M_12))) = some (zs M j g) ∧ (n ≤ k → g = M j) ∧ (k < n → g = upd (M j) k (M j (b + k))) := by
  subst hl hN hB
  by_cases c : n ≤ k
  · refine ⟨M j, ?_, fun _ => rfl, fun h => by omega⟩
    rw [if_pos (by rw [n_le (by omega) (by omega)]; exact c), zs_self]
  · refine ⟨_, ?_, fun h => by omega, fun _ => rfl⟩
    rw [if_neg (by rw [n_le (by omega) (by omega)]; exact c), n_add, pl_k rfl (by omega) (by omega), pw_k rfl (by omega) (by omega)]
theorem cp_t {n b k : Nat} {f g u : Nat → Int32} (hb : n ≤ b) (h1 : n ≤ k → u = f) (h2 : k < n → u = upd f k (f (b + k))) (h : iCp n b (k + 1) u g) : iCp n b k f g := by
  by_cases c : n ≤ k
  · rw [h1 c] at h; exact cp_d c h
  · rw [h2 (by omega)] at h; exact cp_s hb (by omega) h
theorem tk_loop : ∀ m k n M, k + m = 21 → m < n → ∃ M2, L_X9_takes_38 n (nI k) M = some (21, M2) ∧ (∀ j, j ≠ 3 → j ≠ 5 → j ≠ 7 → j ≠ 9 → M2 j = M j) ∧ iCp 3 3 k (M 3) (M2 3) ∧ iCp 6 6 k (M 5) (M2 5) ∧ iCp 21 21 k (M 7) (M2 7) ∧ iCp 20 20 k (M 9) (M2 9) := by
  intro m
  induction m with
  | zero =>
    intro k n M hk hn
    obtain ⟨n, rfl⟩ : ∃ n', n = n' + 1 := ⟨n - 1, by omega⟩
    have : k = 21 := by omega
    subst this
    exact ⟨M, by rw [L_X9_takes_38, if_pos (by decide)]; rfl, fun _ _ _ _ _ => rfl, cp_0 _ _ _ (by omega), cp_0 _ _ _ (by omega), cp_0 _ _ _ (by omega), cp_0 _ _ _ (by omega)⟩
  | succ m ih =>
    intro k n M hk hn
    obtain ⟨n, rfl⟩ : ∃ n', n = n' + 1 := ⟨n - 1, by omega⟩
    obtain ⟨g9, a1, a2, a3⟩ := tk_step 20 20 9 k (zs M 7 (upd (M 7) k (M 7 (21 + k)))) (nI k) rfl (by omega) 20 rfl 20 rfl 40 rfl (by omega) (by omega)
    obtain ⟨g5, b1, b2, b3⟩ := tk_step 6 6 5 k (zs (zs M 7 (upd (M 7) k (M 7 (21 + k)))) 9 g9) (nI k) rfl (by omega) 6 rfl 6 rfl 12 rfl (by omega) (by omega)
    obtain ⟨g3, c1, c2, c3⟩ := tk_step 3 3 3 k (zs (zs (zs M 7 (upd (M 7) k (M 7 (21 + k)))) 9 g9) 5 g5) (nI k) rfl (by omega) 3 rfl 3 rfl 6 rfl (by omega) (by omega)
    rw [L_X9_takes_38, if_neg (by rw [n_21, n_le (by omega) (by omega)]; omega), n_21, n_add, pl_k rfl (by omega) (by omega), pw_k rfl (by omega) (by omega), pb1 a1, pb1 b1, pb1 c1, pv, n_1, n_add]
    obtain ⟨M2, d1, d2, d3, d4, d5, d6⟩ := ih (k + 1) n _ (by omega) (by omega)
    refine ⟨M2, d1, fun j h3 h5 h7 h9 => ?_, cp_t (by omega) c2 c3 d3, cp_t (by omega) b2 b3 d4, cp_s (by omega) (by omega) d5, cp_t (by omega) a2 a3 d6⟩
    rw [d2 j h3 h5 h7 h9, zs_n _ _ h3, zs_n _ _ h5, zs_n _ _ h9, zs_n _ _ h7]
theorem tk_id : ∀ m k n M, k + m = 7 → m < n → ∃ M2, L_X9_takes_128 n (nI k) M = some (7, M2) ∧ (∀ j, j ≠ 10 → M2 j = M j) ∧ (∀ i, i < k → M2 10 i = M 10 i ∧ M2 10 (7 + i) = M 10 (7 + i)) ∧ ∀ i, k ≤ i → i < 7 → M2 10 i = nI i ∧ M2 10 (7 + i) = 0 := by
  intro m
  induction m with
  | zero =>
    intro k n M hk hn
    obtain ⟨n, rfl⟩ : ∃ n', n = n' + 1 := ⟨n - 1, by omega⟩
    have : k = 7 := by omega
    subst this
    exact ⟨M, by rw [L_X9_takes_128, if_pos (by decide)]; rfl, fun _ _ => rfl, fun _ _ => ⟨rfl, rfl⟩, fun i a b => by omega⟩
  | succ m ih =>
    intro k n M hk hn
    obtain ⟨n, rfl⟩ : ∃ n', n = n' + 1 := ⟨n - 1, by omega⟩
    rw [L_X9_takes_128, if_neg (by rw [n_7, n_le (by omega) (by omega)]; omega), pw_k rfl (by omega) (by omega), n_7, n_add, pw_k rfl (by omega) (by omega), pv, n_1, n_add, zs_s, zs_zs]
    obtain ⟨M2, d1, d2, d3, d4⟩ := ih (k + 1) n (zs M 10 (upd (upd (M 10) k (nI k)) (7 + k) 0)) (by omega) (by omega)
    rw [zs_s] at d3
    refine ⟨M2, d1, fun j hj => by rw [d2 j hj, zs_n _ _ hj], fun i hi => ?_, fun i a b => ?_⟩
    · have q := d3 i (by omega)
      rw [q.1, q.2, up_n _ _ (by omega), up_n _ _ (by omega), up_n _ _ (by omega), up_n _ _ (by omega)]
      exact ⟨rfl, rfl⟩
    · by_cases e : i = k
      · have q := d3 i (by omega)
        rw [q.1, q.2, e, up_s, up_n _ _ (by omega), up_s]
        exact ⟨rfl, rfl⟩
      · exact d4 i (by omega) b
theorem an_id : ∀ m k n M, k + m = 7 → m < n → ∃ M2, L_X1_startAnew_2 n (nI k) M = some (7, M2) ∧ (∀ j, j ≠ 0 → j ≠ 1 → M2 j = M j) ∧ (∀ i, i < k → M2 0 i = M 0 i ∧ M2 1 i = M 1 i) ∧ ∀ i, k ≤ i → i < 7 → M2 0 i = nI i ∧ M2 1 i = 0 := by
  intro m
  induction m with
  | zero =>
    intro k n M hk hn
    obtain ⟨n, rfl⟩ : ∃ n', n = n' + 1 := ⟨n - 1, by omega⟩
    have : k = 7 := by omega
    subst this
    exact ⟨M, by rw [L_X1_startAnew_2, if_pos (by decide)]; rfl, fun _ _ _ => rfl, fun _ _ => ⟨rfl, rfl⟩, fun i a b => by omega⟩
  | succ m ih =>
    intro k n M hk hn
    obtain ⟨n, rfl⟩ : ∃ n', n = n' + 1 := ⟨n - 1, by omega⟩
    rw [L_X1_startAnew_2, if_neg (by rw [n_7, n_le (by omega) (by omega)]; omega), pw_k rfl (by omega) (by omega), pw_k rfl (by omega) (by omega), pv, n_1, n_add, zs_n _ _ (by decide)]
    obtain ⟨M2, d1, d2, d3, d4⟩ := ih (k + 1) n (zs (zs M 0 (upd (M 0) k (nI k))) 1 (upd (M 1) k 0)) (by omega) (by omega)
    rw [zs_s, zs_n _ _ (by decide), zs_s] at d3
    refine ⟨M2, d1, fun j h0 h1 => by rw [d2 j h0 h1, zs_n _ _ h1, zs_n _ _ h0], fun i hi => ?_, fun i a b => ?_⟩
    · have q := d3 i (by omega)
      rw [q.1, q.2, up_n _ _ (by omega), up_n _ _ (by omega)]
      exact ⟨rfl, rfl⟩
    · by_cases e : i = k
      · have q := d3 i (by omega)
        rw [q.1, q.2, e, up_s, up_s]
        exact ⟨rfl, rfl⟩
      · exact d4 i (by omega) b
/-- the model takes its draft -/
theorem tkM {M : zMm} {pl : zN} (hw : iWF pl) (hd : iDr M pl) : ∃ M2, f_X9_takes M = some M2 ∧ iPlM M2 pl ∧ (∀ j, j ≤ 1 → M2 j = M j) ∧ (∀ i, i < 7 → M2 10 i = nI i ∧ M2 10 (7 + i) = 0) ∧ M2 11 0 = 0 ∧ M2 12 0 = 0 ∧ M2 13 0 = 0 ∧ M2 15 0 = 0 := by
  obtain ⟨⟨w1, w2, w3, w4, w5, w6, w7⟩, wb, wd, we⟩ := hw
  obtain ⟨⟨d1, d2, d3, d4, d5, d6⟩, db, dd, de⟩ := hd
  unfold f_X9_takes
  simp only [pv]
  obtain ⟨A, a1, a2, a3, a4, a5, a6⟩ := tk_loop 21 0 100000 (zs (zs (zs M 4 (upd (M 4) 0 (M 4 1))) 6 (upd (M 6) 0 (M 6 1))) 8 (upd (M 8) 0 (M 8 1))) rfl (by omega)
  obtain ⟨B, b1, b2, b3, b4⟩ := tk_id 7 0 100000 A rfl (by omega)
  have e1 : zs (zs (zs M 4 (upd (M 4) 0 (M 4 1))) 6 (upd ((zs M 4 (upd (M 4) 0 (M 4 1))) 6) 0 ((zs M 4 (upd (M 4) 0 (M 4 1))) 6 1))) 8 (upd ((zs (zs M 4 (upd (M 4) 0 (M 4 1))) 6 (upd ((zs M 4 (upd (M 4) 0 (M 4 1))) 6) 0 ((zs M 4 (upd (M 4) 0 (M 4 1))) 6 1))) 8) 0 ((zs (zs M 4 (upd (M 4) 0 (M 4 1))) 6 (upd ((zs M 4 (upd (M 4) 0 (M 4 1))) 6) 0 ((zs M 4 (upd (M 4) 0 (M 4 1))) 6 1))) 8 1)) = zs (zs (zs M 4 (upd (M 4) 0 (M 4 1))) 6 (upd (M 6) 0 (M 6 1))) 8 (upd (M 8) 0 (M 8 1)) := rfl
  rw [e1, n_0, pb2 a1, pb2 b1]
  refine ⟨_, rfl, ?_, fun j hj => ?_, fun i hi => b4 i (by omega) hi, rfl, rfl, rfl, rfl⟩
  · have r3 : B 3 = A 3 := b2 3 (by decide)
    have r5 : B 5 = A 5 := b2 5 (by decide)
    have r7 : B 7 = A 7 := b2 7 (by decide)
    have r9 : B 9 = A 9 := b2 9 (by decide)
    have r4 : B 4 = upd (M 4) 0 (M 4 1) := (b2 4 (by decide)).trans (a2 4 (by decide) (by decide) (by decide) (by decide))
    have r6 : B 6 = upd (M 6) 0 (M 6 1) := (b2 6 (by decide)).trans (a2 6 (by decide) (by decide) (by decide) (by decide))
    have r8 : B 8 = upd (M 8) 0 (M 8 1) := (b2 8 (by decide)).trans (a2 8 (by decide) (by decide) (by decide) (by decide))
    refine ⟨⟨?_, ?_, ?_, ?_, ?_, ?_⟩, fun i hi => ?_, fun i hi => ⟨?_, ?_, ?_⟩, fun i hi => ⟨?_, ?_⟩⟩
    · show B 4 0 = _
      rw [r4, up_s, d1]
    · show B 6 0 = _
      rw [r6, up_s, d2]
    · show B 8 0 = _
      rw [r8, up_s, d3]
    · show B 3 0 = _
      rw [r3, a3.2.1 0 (by omega) (by omega)]; exact d4
    · show B 3 1 = _
      rw [r3, a3.2.1 1 (by omega) (by omega)]; exact d5
    · show B 3 2 = _
      rw [r3, a3.2.1 2 (by omega) (by omega)]; exact d6
    · show B 5 i = _
      rw [r5, a4.2.1 i (by omega) (by omega)]; exact db i hi
    · show B 7 (3 * i) = _
      rw [r7, a5.2.1 _ (by omega) (by omega)]; exact (dd i hi).1
    · show B 7 (3 * i + 1) = _
      rw [r7, a5.2.1 _ (by omega) (by omega)]; exact (dd i hi).2.1
    · show B 7 (3 * i + 2) = _
      rw [r7, a5.2.1 _ (by omega) (by omega)]; exact (dd i hi).2.2
    · show B 9 (2 * i) = _
      rw [r9, a6.2.1 _ (by omega) (by omega)]; exact (de i hi).1
    · show B 9 (2 * i + 1) = _
      rw [r9, a6.2.1 _ (by omega) (by omega), show 20 + (2 * i + 1) = 21 + 2 * i by omega]; exact (de i hi).2
  · rcases (show j = 0 ∨ j = 1 by omega) with rfl | rfl
    · show B 0 = _
      rw [b2 0 (by decide), a2 0 (by decide) (by decide) (by decide) (by decide)]
      rfl
    · show B 1 = _
      rw [b2 1 (by decide), a2 1 (by decide) (by decide) (by decide) (by decide)]
      rfl
theorem q_lay {X M : zMm} (h : Inv X M) : ∃ r b X2 M2, f_X8_lay X = some (r, b, X2) ∧ f_X9_lay M = some (r, M2) ∧ Inv X2 M2 := by
  obtain ⟨pl', t, _, _, _, _, h5, _, ⟨dn, nx, h7⟩, ⟨kn, kx, h8⟩, _, _, _, h12⟩ := id h
  obtain ⟨r, X2, P2, M2, g1, g2, g3, g4, g5⟩ := rdB h5 (fun j => X (47 + j))
  have hI := inv_rd (P2 := P2) h g3 g4
  unfold f_X8_lay f_X9_lay
  rw [pb3 g1, pv, pb2 g2]
  rcases g5 with ⟨g5, pl, hw, hp, hd⟩ | ⟨e, g5, he⟩
  · rw [if_pos g5, if_pos g5]
    have hw' := hw.1
    have e54 : zp (zp X 0 3 X2) 47 12 P2 54 0 = nI (pl 7 0) := hp.1.2.1
    rw [e54, hd.1.2.1]
    by_cases c : pl 7 0 = 0
    · rw [if_pos (by rw [c]; rfl), if_pos (by rw [c]; rfl)]
      exact ⟨_, _, _, _, rfl, rfl, hI⟩
    · rw [if_neg (by rw [n_0, n_eq (by omega) (by omega)]; exact c), if_neg (by rw [n_0, n_eq (by omega) (by omega)]; exact c)]
      obtain ⟨B, b1, b2, b3, b4, b5, b6, b7, b8⟩ := tkM hw hd
      obtain ⟨A, a1, a2, a3, a4⟩ := an_id 7 0 100000 (fun j => zx (zp (zp X 0 3 X2) 47 12 P2) (3 + j)) rfl (by omega)
      have a5 : f_X1_startAnew (fun j => zx (zp (zp X 0 3 X2) 47 12 P2) (3 + j)) = some A := by
        unfold f_X1_startAnew
        rw [n_0, pb2 a1]
      rw [pv, pb1 a5, pv, pb1 b1]
      unfold f_X2a_clear f_X2b_clear
      rw [pv, pb1 rfl, pv, pv, pb1 rfl, pv, pv, pv, pv]
      refine ⟨_, _, _, B, rfl, sw (b2.1.2.1.trans hp.1.2.1.symm), pl, t, hw, by omega, hp, b2, ?_, ?_, ⟨0, nx, ?_⟩, ⟨0, kx, ?_⟩, ⟨0, ?_⟩, ⟨0, fun _ => 0, ?_⟩, Or.inl rfl, fun k hk => h12 k hk⟩
      · have r0 : B 0 = M 0 := (b3 0 (by omega)).trans (g4.1 0 (by omega) (by decide))
        have r1 : B 1 = M 1 := (b3 1 (by omega)).trans (g4.1 1 (by omega) (by decide))
        unfold iTxt at h5 ⊢
        rw [r0, r1]
        have x0 := g3 0 (by decide)
        have x2 := g3 2 (by decide)
        rw [← x0, ← x2] at h5
        exact h5
      · refine ⟨fun k => k, ⟨fun k hk => ⟨(a4 k (by omega) hk).1, hk⟩, fun j k _ _ e => e⟩, len0 hw _ (fun k hk => (a4 k (by omega) hk).2), fun k hk => ⟨(b4 k hk).1.trans (a4 k (by omega) hk).1.symm, (b4 k hk).2.trans (a4 k (by omega) hk).2.symm⟩⟩
      · exact ⟨by omega, h7.2.1, h7.2.2.1, rfl, h7.2.2.2.2.1, b6, fun d hd => absurd hd (Nat.not_lt_zero _)⟩
      · exact ⟨by omega, h8.2.1, h8.2.2.1, rfl, h8.2.2.2.2.1, b5, fun d hd => absurd hd (Nat.not_lt_zero _)⟩
      · exact ⟨by omega, rfl, b7, fun d hd => absurd hd (Nat.not_lt_zero _)⟩
      · exact ⟨by omega, rfl, b8, fun d hd => absurd hd (Nat.not_lt_zero _)⟩
  · have ne : ¬ r = -4 := by
      rw [g5, eqT, nT (by omega), show (-4 : Int32).toInt = -4 from rfl]
      omega
    rw [if_neg ne, if_neg ne]
    exact ⟨_, _, _, _, rfl, rfl, hI⟩
