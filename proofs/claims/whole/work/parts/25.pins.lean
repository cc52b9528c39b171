/-! inch -/
def zAG (M : zMm) (t v : Int32) (k : Nat) : Bool := decide (¬ M 14 (3 * k) = t ∨ (M 14 (3 * k + 1) * v) / (100 : Int32) = M 14 (3 * k + 2))
theorem agX_loop {X M : zMm} {sn : Nat} (h : iSe X M sn) (t v : Int32) : ∀ m k n, k + m = sn → m < n → L_X6_agreeWith_2 (fun j => X (15 + j)) t v n (nI k) = some (zB (zAF (zAG M t v) k m)) := by
  obtain ⟨s1, s2, s3, s4⟩ := h
  have s2' : X (15 + 3) 0 = nI sn := s2
  intro m
  induction m with
  | zero =>
    intro k n hk hn
    obtain ⟨n, rfl⟩ : ∃ n', n = n' + 1 := ⟨n - 1, by omega⟩
    rw [L_X6_agreeWith_2, s2', if_pos (by rw [n_le (by omega) (by omega)]; omega)]
    rfl
  | succ m ih =>
    intro k n hk hn
    obtain ⟨n, rfl⟩ : ∃ n', n = n' + 1 := ⟨n - 1, by omega⟩
    obtain ⟨e1, e2, e3⟩ := s4 k (by omega)
    have e1 : X (15 + 0) k = M 14 (3 * k) := e1
    have e2 : X (15 + 1) k = M 14 (3 * k + 1) := e2
    have e3 : X (15 + 2) k = M 14 (3 * k + 2) := e3
    rw [L_X6_agreeWith_2, s2', if_neg (by rw [n_le (by omega) (by omega)]; omega), pl_k rfl (by omega) (by omega), e1, zAF]
    by_cases c : M 14 (3 * k) = t
    · rw [if_pos c, pl_k rfl (by omega) (by omega), e2, f_X5_byInch, pb1 rfl, pl_k rfl (by omega) (by omega), e3]
      by_cases c2 : (M 14 (3 * k + 1) * v) / (100 : Int32) = M 14 (3 * k + 2)
      · rw [if_pos c2, pv, n_1, n_add, show zAG M t v k = true by simp [zAG, c2], Bool.true_and]
        exact ih (k + 1) n (by omega) (by omega)
      · rw [if_neg c2, show zAG M t v k = false by simp [zAG, c2, c]]
        rfl
    · rw [if_neg c, pv, n_1, n_add, show zAG M t v k = true by simp [zAG, c], Bool.true_and]
      exact ih (k + 1) n (by omega) (by omega)
theorem agM_loop {X M : zMm} {sn : Nat} (h : iSe X M sn) (t l2 l3 l4 v : Int32) : ∀ m k n (b : Bool), k + m = sn → m < n → L_X9_inch_43 M t l2 l3 l4 v n (zB b) (nI k) = some (zB (b && zAF (zAG M t v) k m), nI sn) := by
  obtain ⟨s1, s2, s3, s4⟩ := h
  intro m
  induction m with
  | zero =>
    intro k n b hk hn
    obtain ⟨n, rfl⟩ : ∃ n', n = n' + 1 := ⟨n - 1, by omega⟩
    rw [L_X9_inch_43, s3, if_pos (by rw [n_le (by omega) (by omega)]; omega), show k = sn by omega, zAF, Bool.and_true]
  | succ m ih =>
    intro k n b hk hn
    obtain ⟨n, rfl⟩ : ∃ n', n = n' + 1 := ⟨n - 1, by omega⟩
    rw [L_X9_inch_43, s3, if_neg (by rw [n_le (by omega) (by omega)]; omega), zAF]
    cases b with
    | false =>
      have : (zB false) = 0 := rfl
      rw [this, if_pos rfl, pb1 rfl, pv, n_1, n_add, Bool.false_and]
      have := ih (k + 1) n false (by omega) (by omega)
      rw [Bool.false_and] at this
      exact this
    | true =>
      have : ¬ (zB true) = 0 := by decide
      rw [if_neg this, Bool.true_and, pl_k (k := 3 * k) (by rw [n_3, n_mul]) (by omega) (by omega)]
      by_cases c : M 14 (3 * k) = t
      · rw [if_pos c, pl_k (k := 3 * k + 1) (by rw [n_3, n_mul, n_1, n_add]) (by omega) (by omega), pl_k (k := 3 * k + 2) (by rw [n_3, n_mul, n_2, n_add]) (by omega) (by omega)]
        by_cases c2 : (M 14 (3 * k + 1) * v) / (100 : Int32) = M 14 (3 * k + 2)
        · rw [if_pos c2, pb1 rfl, pv, n_1, n_add, show zAG M t v k = true by simp [zAG, c2]]
          exact ih (k + 1) n true (by omega) (by omega)
        · rw [if_neg c2, pb1 rfl, pv, n_1, n_add, show zAG M t v k = false by simp [zAG, c2, c]]
          exact ih (k + 1) n false (by omega) (by omega)
      · rw [if_neg c, pb1 rfl, pv, n_1, n_add, show zAG M t v k = true by simp [zAG, c]]
        exact ih (k + 1) n true (by omega) (by omega)
def zIN (ag : Nat → Bool) : Nat → Int32 → Int32 → Int32 × Int32
  | 0, n, f => (n, f)
  | m + 1, n, f => if ag (80 + m) then zIN ag m (n + 1) (nI (80 + m)) else zIN ag m n f
theorem down1 (v : Nat) : nI (v + 1) + (-1) = nI v := pk_m1 v
theorem inX_loop {X M : zMm} {sn : Nat} (h : iSe X M sn) (t w : Int32) : ∀ m n (c f : Int32), m ≤ 41 → m < n → L_X8_inch_32 X t w n c f (nI (79 + m)) = some ((zIN (fun v => zAF (zAG M t (nI v)) 0 sn) m c f).1, (zIN (fun v => zAF (zAG M t (nI v)) 0 sn) m c f).2, nI 79) := by
  have hs := h.1
  intro m
  induction m with
  | zero =>
    intro n c f hm hn
    obtain ⟨n, rfl⟩ : ∃ n', n = n' + 1 := ⟨n - 1, by omega⟩
    rw [L_X8_inch_32, if_pos (by decide)]
    rfl
  | succ m ih =>
    intro n c f hm hn
    obtain ⟨n, rfl⟩ : ∃ n', n = n' + 1 := ⟨n - 1, by omega⟩
    have e : f_X6_agreeWith (fun j => X (15 + j)) t (nI (80 + m)) = _ := agX_loop h t (nI (80 + m)) sn 0 100000 (by omega) (by omega)
    have ed : nI (80 + m) + (-1) = nI (79 + m) := by rw [show 80 + m = (79 + m) + 1 by omega, down1]
    rw [L_X8_inch_32, show 79 + (m + 1) = 80 + m by omega, if_neg (by rw [n_80, n_lt (by omega) (by omega)]; omega), pb1 e, zIN]
    cases hb : zAF (zAG M t (nI (80 + m))) 0 sn with
    | false =>
      rw [if_pos (show zB false = 0 from rfl), pb2 rfl, pv, ed]
      exact ih n c f (by omega) (by omega)
    | true =>
      rw [if_neg (show ¬ zB true = 0 by decide), pv, pb2 rfl, pv, ed]
      exact ih n (c + 1) (nI (80 + m)) (by omega) (by omega)
theorem inM_loop {X M : zMm} {sn : Nat} (h : iSe X M sn) (t w : Int32) : ∀ m n (c f : Int32), m ≤ 41 → m < n → L_X9_inch_30 M t w n c f (nI (79 + m)) = some ((zIN (fun v => zAF (zAG M t (nI v)) 0 sn) m c f).1, (zIN (fun v => zAF (zAG M t (nI v)) 0 sn) m c f).2, nI 79) := by
  have hs := h.1
  intro m
  induction m with
  | zero =>
    intro n c f hm hn
    obtain ⟨n, rfl⟩ : ∃ n', n = n' + 1 := ⟨n - 1, by omega⟩
    rw [L_X9_inch_30, if_pos (by decide)]
    rfl
  | succ m ih =>
    intro n c f hm hn
    obtain ⟨n, rfl⟩ : ∃ n', n = n' + 1 := ⟨n - 1, by omega⟩
    have e : L_X9_inch_43 M t w c f (nI (80 + m)) 100000 1 0 = _ := agM_loop h t w c f (nI (80 + m)) sn 0 100000 true (by omega) (by omega)
    have ed : nI (80 + m) + (-1) = nI (79 + m) := by rw [show 80 + m = (79 + m) + 1 by omega, down1]
    rw [L_X9_inch_30, show 79 + (m + 1) = 80 + m by omega, if_neg (by rw [n_80, n_lt (by omega) (by omega)]; omega), pb2 e, zIN, Bool.true_and]
    cases hb : zAF (zAG M t (nI (80 + m))) 0 sn with
    | false =>
      rw [if_pos (show zB false = 0 from rfl), pb1 rfl, pv, if_pos (show zB false = 0 from rfl), pb1 rfl, pv, ed]
      have := ih n c f (by omega) (by omega)
      rw [Int32.add_zero]
      exact this
    | true =>
      rw [if_neg (show ¬ zB true = 0 by decide), pb1 rfl, pv, if_neg (show ¬ zB true = 0 by decide), pb1 rfl, pv, ed]
      exact ih n (c + 1) (nI (80 + m)) (by omega) (by omega)
theorem two {b : Int32} : (b = 0 ∨ b = 1) ∨ (b.toInt < 0 ∨ 1 < b.toInt) := by
  by_cases c : b.toInt < 0 ∨ 1 < b.toInt
  · exact Or.inr c
  · refine Or.inl ?_
    rcases (show b.toInt = 0 ∨ b.toInt = 1 by omega) with h | h
    · exact Or.inl (eqT.mpr h)
    · exact Or.inr (eqT.mpr h)
theorem q_inch {X M : zMm} (h : Inv X M) (a b : Int32) : ∃ r, f_X8_inch X a b = some r ∧ f_X9_inch M a b = some r := by
  obtain ⟨pl, t, hw, hn, hpx, hpm, h5, hft, h7, h8, ⟨sn, h9⟩, h10, h11, h12⟩ := id h
  have hb := hw.1
  unfold f_X8_inch f_X9_inch
  rcases ix a (n := pl 6 0) (by omega) with ⟨i, hi, rfl⟩ | hi
  · rw [pb1 (hasTailorX hpx hw hi), if_neg i10, pb1 (isTailorM hpm hw hi), if_neg i10]
    have eX : L_X8_inch_32 X (nI i) b 100000 0 (-4) 120 = _ := inX_loop h9 (nI i) b 41 100000 0 (-4) (by omega) (by omega)
    have eM : L_X9_inch_30 M (nI i) b 100000 0 (-4) 120 = _ := inM_loop h9 (nI i) b 41 100000 0 (-4) (by omega) (by omega)
    rcases two (b := b) with (c | c) | c
    · rw [if_pos c, pb3 eX, if_pos c, pb1 (in_y (tL _) (lo := 0) (hi := 1) rfl rfl (by rw [c]; decide) (by rw [c]; decide)), if_neg i10, pb3 eM, if_pos c]
      exact ⟨_, rfl, rfl⟩
    · have c0 : ¬ b = 0 := by rw [c]; decide
      rw [if_neg c0, if_pos c, pb3 eX, if_neg c0, pb1 (in_y (tL _) (lo := 0) (hi := 1) rfl rfl (by rw [c]; decide) (by rw [c]; decide)), if_neg i10, pb3 eM, if_neg c0]
      exact ⟨_, rfl, rfl⟩
    · have c0 : ¬ b = 0 := fun e => by rw [e] at c; have : (0 : Int32).toInt = 0 := rfl; omega
      have c1 : ¬ b = 1 := fun e => by rw [e] at c; have : (1 : Int32).toInt = 1 := rfl; omega
      rw [if_neg c0, if_neg c1, pb1 (in_n (tL _) (lo := 0) (hi := 1) rfl rfl c), if_pos rfl]
      exact ⟨_, rfl, rfl⟩
  · rw [pb1 (hasTailorX_no hpx hw hi), if_pos rfl, pb1 (isTailorM_no hpm hw hi), if_pos rfl]
    exact ⟨_, rfl, rfl⟩
/-! pins -/
theorem zcnt_le (p : Nat → Bool) : ∀ n, zcnt p n ≤ n
  | 0 => Nat.le_refl _
  | n + 1 => by
    have := zcnt_le p n
    rw [zcnt]
    split <;> omega
theorem zcnt_c {p q : Nat → Bool} : ∀ {n : Nat}, (∀ i, i < n → p i = q i) → zcnt p n = zcnt q n
  | 0, _ => rfl
  | n + 1, h => by rw [zcnt, zcnt, zcnt_c (fun i hi => h i (by omega)), h n (by omega)]
theorem cntX_loop {X M : zMm} {pl : zN} {pn : Nat} {ps : Nat → Nat} (h : iPi X M pl pn ps) (hw : iWF pl) {s : Nat} (hs : s < 10) : ∀ m k n, k + m = pn → m < n → L_X4_countIn_4 (fun j => X (19 + j)) (nI s) n (nI (zcnt (fun j => decide (ps j = s)) k)) (nI k) = some (nI (zcnt (fun j => decide (ps j = s)) pn), nI pn) := by
  obtain ⟨s1, s2, s3, s4⟩ := h
  have hb := hw.1
  have s2' : X (19 + 2) 0 = nI pn := s2
  intro m
  induction m with
  | zero =>
    intro k n hk hn
    obtain ⟨n, rfl⟩ : ∃ n', n = n' + 1 := ⟨n - 1, by omega⟩
    rw [L_X4_countIn_4, s2', if_pos (by rw [n_le (by omega) (by omega)]; omega), show k = pn by omega]
  | succ m ih =>
    intro k n hk hn
    obtain ⟨n, rfl⟩ : ∃ n', n = n' + 1 := ⟨n - 1, by omega⟩
    obtain ⟨e0, e1, -⟩ := s4 k (by omega)
    have e1 : X (19 + 0) k = nI (ps k) := e1
    have hz := zcnt_le (fun j => decide (ps j = s)) k
    rw [L_X4_countIn_4, s2', if_neg (by rw [n_le (by omega) (by omega)]; omega), pl_k rfl (by omega) (by omega), e1]
    have ih := ih (k + 1) n (by omega) (by omega)
    rw [zcnt] at ih
    by_cases c : ps k = s
    · rw [if_pos (by rw [c]), pb1 rfl, pv, pv, n_1, n_add, n_add]
      rw [if_pos (by simp [c])] at ih
      exact ih
    · rw [if_neg (by rw [n_eq (by omega) (by omega)]; exact c), pb1 rfl, pv, pv, n_1, n_0, n_add, n_add]
      rw [if_neg (by simp [c])] at ih
      exact ih
theorem tlM {M : zMm} {pl : zN} (hp : iPlM M pl) (hw : iWF pl) {s : Nat} (hs : s < pl 8 0) (d : Nat) (hd : d < 2) : f_X9_tailorOf M (nI s) (nI d) = some (nI (pl 1 (if d = 0 then pl 4 s else pl 5 s))) := by
  obtain ⟨-, -, h3, h4⟩ := hp
  obtain ⟨⟨-, b2, b3, -⟩, -, -, w3⟩ := hw
  obtain ⟨e1, e2⟩ := h4 s hs
  obtain ⟨w1, w2, -⟩ := w3 s hs
  unfold f_X9_tailorOf
  rw [pl_k (k := 2 * s + d) (by rw [n_2, n_mul, n_add]) (by omega) (by omega)]
  rcases (show d = 0 ∨ d = 1 by omega) with rfl | rfl
  · have e1 : M 9 (2 * s + 0) = nI (pl 4 s) := e1
    rw [e1, pl_k (k := 3 * pl 4 s) (by rw [n_3, n_mul, n_0, n_add]; rfl) (by omega) (by omega), (h3 _ w1).1]
    rfl
  · rw [e2, pl_k (k := 3 * pl 5 s) (by rw [n_3, n_mul, n_0, n_add]; rfl) (by omega) (by omega), (h3 _ w2).1]
    rfl
theorem rem2 {a : Nat} (h : a < 2147483648) : zrI (nI a) (2 : Int32) = nI (a % 2) := pk_rem (d := 2) (by omega) (by omega) (by omega)
theorem q_pin {X M : zMm} (h : Inv X M) (a : Int32) : ∃ r X2 M2, f_X8_pin X a = some (r, X2) ∧ f_X9_pin M a = some (r, M2) ∧ Inv X2 M2 := by
  obtain ⟨pl, t, hw, hn, hpx, hpm, h5, hft, h7, h8, h9, ⟨pn, ps, h10⟩, h11, h12⟩ := id h
  have hb := hw.1
  unfold f_X8_pin f_X9_pin
  rcases ix a (n := pl 8 0) (by omega) with ⟨s, hs, rfl⟩ | hs
  · obtain ⟨w1, w2, -⟩ := hw.2.2.2 s hs
    obtain ⟨x4, x5⟩ := hpx.2.2.2 s hs
    have x4 : X 39 s = nI (pl 4 s) := x4
    have x5 : X 40 s = nI (pl 5 s) := x5
    have y4 : X 36 (pl 4 s) = nI (pl 1 (pl 4 s)) := (hpx.2.2.1 _ w1).1
    have y5 : X 36 (pl 5 s) = nI (pl 1 (pl 5 s)) := (hpx.2.2.1 _ w2).1
    have v1 := (hw.2.2.1 _ w1).1
    have v2 := (hw.2.2.1 _ w2).1
    have t0 : f_X9_tailorOf M (nI s) 0 = _ := tlM hpm hw hs 0 (by omega)
    have t1 : f_X9_tailorOf M (nI s) 1 = _ := tlM hpm hw hs 1 (by omega)
    rw [if_pos rfl] at t0
    rw [if_neg (by omega)] at t1
    rw [hpm.1.2.2.1, pb1 (hasSeamX hpx hw hs), if_neg i10, pl_k rfl (by omega) (by omega), pl_k x4 (by omega) (by omega), pl_k rfl (by omega) (by omega), pl_k x5 (by omega) (by omega), y4, y5, pb1 (in_y (tL _) (lo := 0) rfl (tL1 (by omega)) (by rw [nT (by omega)]; omega) (by rw [nT (by omega)]; omega)), if_neg i10, pb1 t0, pb1 t1]
    by_cases c : pl 1 (pl 4 s) = pl 1 (pl 5 s)
    · rw [if_pos (by rw [c]), if_pos (by rw [c])]
      exact ⟨_, _, _, rfl, rfl, h⟩
    · have cn : ¬ nI (pl 1 (pl 4 s)) = nI (pl 1 (pl 5 s)) := by rw [n_eq (by omega) (by omega)]; exact c
      obtain ⟨p1, p2, p3, p4⟩ := id h10
      rw [if_neg cn, if_neg cn, p2, p3]
      by_cases c3 : pn = 12
      · rw [if_neg (by rw [n_12, n_lt (by omega) (by omega)]; omega), if_pos (by rw [c3]; rfl)]
        exact ⟨_, _, _, rfl, rfl, h⟩
      · rw [if_pos (by rw [n_12, n_lt (by omega) (by omega)]; omega), if_neg (by rw [n_12, n_eq (by omega) (by omega)]; exact c3)]
        have hz := zcnt_le (fun j => decide (ps j = s)) pn
        have eC : f_X4_countIn (fun j => X (19 + j)) (nI s) = some (nI (zcnt (fun j => decide (ps j = s)) pn)) := by
          unfold f_X4_countIn
          have e : L_X4_countIn_4 (fun j => X (19 + j)) (nI s) 100000 0 0 = _ := cntX_loop h10 hw (by omega) pn 0 100000 (by omega) (by omega)
          rw [pb2 e]
        have eT : (if zrI (nI (zcnt (fun j => decide (ps j = s)) pn)) (2 : Int32) = 0 then some (nI (pl 1 (pl 4 s))) else some (nI (pl 1 (pl 5 s)))) = some (nI (pl 1 (if zcnt (fun j => decide (ps j = s)) pn % 2 = 0 then pl 4 s else pl 5 s))) := by
          rw [rem2 (by omega), n_0]
          by_cases c : zcnt (fun j => decide (ps j = s)) pn % 2 = 0
          · rw [if_pos (by rw [c]), if_pos c]
          · rw [if_neg (by rw [n_eq (by omega) (by omega)]; exact c), if_neg c]
        have eA : ∀ q, f_X4_add (fun j => X (19 + j)) (nI s) q = some (zs (zs (zs (fun j => X (19 + j)) 0 (upd (X 19) pn (nI s))) 1 (upd (X 20) pn q)) 2 (fun _ => X 21 0 + 1)) := by
          intro q
          have s2' : (fun j => X (19 + j)) 2 0 = nI pn := p2
          unfold f_X4_add
          rw [s2', if_neg (by rw [n_12, n_le (by omega) (by omega)]; omega), pw_k rfl (by omega) (by omega), pw_k (k := pn) (by exact p2) (by omega) (by omega), pv]
          rfl
        rw [pb1 eC, pb1 eT, pb1 (eA _), pv, pw_k rfl (by omega) (by omega), pv]
        refine ⟨_, _, _, rfl, sw (by show M 15 0 + 1 = X 21 0 + 1; rw [p3, p2]), pl, t, hw, hn, hpx, hpm, h5, hft, h7, h8, h9, ⟨pn + 1, fun k => if k = pn then s else ps k, by omega, ?_, ?_, ?_⟩, h11, h12⟩
        · show X 21 0 + 1 = nI (pn + 1)
          rw [p2, n_1, n_add]
        · show M 15 0 + 1 = nI (pn + 1)
          rw [p3, n_1, n_add]
        · intro k hk
          show (if k = pn then s else ps k) < pl 8 0 ∧ upd (X 19) pn (nI s) k = nI (if k = pn then s else ps k) ∧ upd (M 16) pn (nI s) k = nI (if k = pn then s else ps k) ∧ upd (X 20) pn (nI (pl 1 (if zcnt (fun j => decide (ps j = s)) pn % 2 = 0 then pl 4 s else pl 5 s))) k = nI (pl 1 (if zcnt (fun j => decide ((if j = pn then s else ps j) = (if k = pn then s else ps k))) k % 2 = 0 then pl 4 (if k = pn then s else ps k) else pl 5 (if k = pn then s else ps k)))
          have hth : ∀ u, (∀ j, j < k → (if j = pn then s else ps j) = ps j) → zcnt (fun j => decide ((if j = pn then s else ps j) = u)) k = zcnt (fun j => decide (ps j = u)) k := fun u hj => zcnt_c (fun j hj2 => by rw [hj j hj2])
          have hlt : ∀ j, j < k → (if j = pn then s else ps j) = ps j := fun j hj => if_neg (by omega)
          rw [hth _ hlt]
          by_cases hks : k = pn
          · subst hks
            rw [if_pos rfl, up_s, up_s, up_s]
            exact ⟨hs, rfl, rfl, rfl⟩
          · rw [if_neg hks, up_n _ _ hks, up_n _ _ hks, up_n _ _ hks]
            exact p4 k (by omega)
  · have hns := not_in hs
    rw [hpm.1.2.2.1, pb1 (hasSeamX_no hpx hw hs), if_pos rfl, pb1 (in_n (tL _) (lo := 0) rfl (tL1 (by omega)) (by omega)), if_pos rfl]
    exact ⟨_, _, _, rfl, rfl, h⟩
theorem thM_loop {X M : zMm} {pl : zN} {pn : Nat} {ps : Nat → Nat} (h : iPi X M pl pn ps) (hw : iWF pl) {i : Nat} (hi : i < pn) : ∀ m k n, k + m = i → m < n → L_X9_thumb_21 M (nI i) n (nI (zcnt (fun j => decide (ps j = ps i)) k)) (nI k) = some (nI (zcnt (fun j => decide (ps j = ps i)) i), nI i) := by
  obtain ⟨s1, s2, s3, s4⟩ := h
  have hb := hw.1
  intro m
  induction m with
  | zero =>
    intro k n hk hn
    obtain ⟨n, rfl⟩ : ∃ n', n = n' + 1 := ⟨n - 1, by omega⟩
    rw [L_X9_thumb_21, if_pos (by rw [n_le (by omega) (by omega)]; omega), show k = i by omega]
  | succ m ih =>
    intro k n hk hn
    obtain ⟨n, rfl⟩ : ∃ n', n = n' + 1 := ⟨n - 1, by omega⟩
    obtain ⟨e0, -, e1, -⟩ := s4 k (by omega)
    obtain ⟨g0, -, g1, -⟩ := s4 i (by omega)
    rw [L_X9_thumb_21, if_neg (by rw [n_le (by omega) (by omega)]; omega), pl_k rfl (by omega) (by omega), pl_k rfl (by omega) (by omega), e1, g1]
    have ih := ih (k + 1) n (by omega) (by omega)
    rw [zcnt] at ih
    by_cases c : ps k = ps i
    · rw [if_pos (by rw [c]), pb1 rfl, pv, pv, n_1, n_add, n_add]
      rw [if_pos (by simp [c])] at ih
      exact ih
    · rw [if_neg (by rw [n_eq (by omega) (by omega)]; exact c), pb1 rfl, pv, pv, n_1, n_0, n_add, n_add]
      rw [if_neg (by simp [c])] at ih
      exact ih
theorem q_thumb {X M : zMm} (h : Inv X M) (a : Int32) : ∃ r, f_X8_thumb X a = some r ∧ f_X9_thumb M a = some r := by
  obtain ⟨pl, t, hw, hn, hpx, hpm, h5, hft, h7, h8, h9, ⟨pn, ps, h10⟩, h11, h12⟩ := id h
  obtain ⟨p1, p2, p3, p4⟩ := id h10
  have hb := hw.1
  unfold f_X8_thumb f_X9_thumb
  rw [p2, p3]
  by_cases c : (0 : Int32) ≤ a
  · rw [if_pos c, if_pos c]
    rcases ix a (n := pn) (by omega) with ⟨i, hi, rfl⟩ | hi
    · rw [if_neg (by rw [n_le (by omega) (by omega)]; omega), if_pos (by rw [n_lt (by omega) (by omega)]; omega), pl_k rfl (by omega) (by omega)]
      obtain ⟨g0, -, g1, g2⟩ := p4 i hi
      have hz := zcnt_le (fun j => decide (ps j = ps i)) i
      have e : L_X9_thumb_21 M (nI i) 100000 0 0 = _ := thM_loop h10 hw hi i 0 100000 (by omega) (by omega)
      rw [pb2 e, pl_k rfl (by omega) (by omega), g1, rem2 (by omega), pb1 (tlM hpm hw g0 _ (Nat.mod_lt _ (by omega))), g2]
      exact ⟨_, rfl, rfl⟩
    · have hni := not_in hi
      have e0 : (0 : Int32).toInt = 0 := rfl
      rw [if_pos (by rw [leT, nT (by omega)]; rw [leT] at c; omega), if_neg (by rw [ltT, nT (by omega)]; rw [leT] at c; omega)]
      exact ⟨_, rfl, rfl⟩
  · rw [if_neg c, if_neg c]
    exact ⟨_, rfl, rfl⟩
