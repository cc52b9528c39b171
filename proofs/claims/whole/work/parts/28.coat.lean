/-! a coat for two -/
def zSI (f : Nat → Int) : Nat → Int
  | 0 => 0
  | n + 1 => zSI f n + f n
theorem zSI_e {g : Nat → Int32} {f : Nat → Int} : ∀ n, (∀ i, i < n → g i = iI (f i)) → zSUM g n = iI (zSI f n)
  | 0, _ => rfl
  | n + 1, h => by rw [zSUM, zSI_e n (fun i hi => h i (by omega)), h n (by omega), iI_add]; rfl
def zSZ (lz : Nat → Int) (s : Nat) : Nat → Int := zSI (fun i => if zbit s i then lz i else 0)
theorem zSZ_b {lz : Nat → Int} (s : Nat) : ∀ n, (∀ i, i < n → 1 ≤ lz i ∧ lz i ≤ 299) → 0 ≤ zSZ lz s n ∧ zSZ lz s n ≤ zSI lz n ∧ zSI lz n ≤ 299 * n
  | 0, _ => by simp [zSZ, zSI]
  | n + 1, h => by
    have ih := zSZ_b s n (fun i hi => h i (by omega))
    have hn := h n (by omega)
    unfold zSZ at ih ⊢
    rw [zSI, zSI]
    split <;> omega
theorem zDZ_e {lz : Nat → Int} (s : Nat) : ∀ n, zSI (fun i => if zbit s i then lz i else -lz i) n = 2 * zSZ lz s n - zSI lz n
  | 0 => by simp [zSZ, zSI]
  | n + 1 => by
    have ih := zDZ_e (lz := lz) s n
    unfold zSZ at ih ⊢
    rw [zSI, zSI, zSI, ih]
    split <;> omega
theorem zabs_i {z : Int} (h1 : -2147483648 < z) (h2 : z < 2147483648) : zabs (iI z) = nI z.natAbs := by
  unfold zabs
  have e0 : (0 : Int32).toInt = 0 := rfl
  by_cases c : z < 0
  · rw [if_pos (by rw [ltT, iI_t (by omega) (by omega)]; omega), iI_neg, ← iI_n]
    congr 1
    omega
  · rw [if_neg (by rw [ltT, iI_t (by omega) (by omega)]; omega), ← iI_n]
    congr 1
    omega
def zU (lz : Nat → Int) (n s : Nat) : Nat := (zSI lz n - 2 * zSZ lz s n).natAbs
theorem zU_b {lz : Nat → Int} {n : Nat} (hn : n ≤ 7) (h : ∀ i, i < n → 1 ≤ lz i ∧ lz i ≤ 299) (s : Nat) : zU lz n s ≤ 2093 := by
  have := zSZ_b (lz := lz) s n h
  unfold zU
  omega
theorem zbit0 (i : Nat) : zbit 0 i = false := by unfold zbit; simp
theorem zSZ_0 (lz : Nat → Int) : ∀ n, zSZ lz 0 n = 0
  | 0 => rfl
  | n + 1 => by
    have := zSZ_0 lz n
    unfold zSZ at this ⊢
    rw [zSI, this, zbit0]
    rfl
theorem zbitA : ∀ n, n < 8 → ∀ i, i < n → zbit (2 ^ n - 1) i = true := by decide +kernel
theorem zSZ_A {lz : Nat → Int} {n : Nat} (hn : n ≤ 7) : ∀ k, k ≤ n → zSZ lz (2 ^ n - 1) k = zSI lz k
  | 0, _ => rfl
  | k + 1, h => by
    have := zSZ_A (lz := lz) hn k (by omega)
    unfold zSZ at this ⊢
    rw [zSI, zSI, this, zbitA n (by omega) k (by omega), if_pos rfl]
theorem zSS_e {g : Nat → Int32} {lz : Nat → Int} (s : Nat) {n : Nat} (h : ∀ i, i < n → g i = iI (lz i)) : zSS g s n = iI (zSZ lz s n) := by
  unfold zSS zSZ
  exact zSI_e n (fun i hi => by
    by_cases c : zbit s i = true
    · rw [if_pos c, if_pos c]; exact h i hi
    · rw [if_neg c, if_neg c]; rfl)
def zco (lz : Nat → Int) (n b s : Nat) : Nat := if zU lz n s < zU lz n b then s else b
def zCO (lz : Nat → Int) (n : Nat) : Nat → Nat → Nat → Nat
  | 0, _, b => b
  | m + 1, s, b => zCO lz n m (s + 1) (zco lz n b s)
theorem coX_loop {X : zMm} {pl : zN} {lz : Nat → Int} (hp : X 42 0 = nI (pl 7 0)) (hw : iWF pl) (hg : ∀ i, i < pl 7 0 → X 31 i = iI (lz i)) (hl : ∀ i, i < pl 7 0 → 1 ≤ lz i ∧ lz i ≤ 299) (a : Int32) : ∀ m s n b, s + m = 2 ^ pl 7 0 → m < n → 1 ≤ s → L_X8_coat_49 X a (nI (2 ^ pl 7 0 - 1)) (iI (zSI lz (pl 7 0))) n (nI b) (nI (zU lz (pl 7 0) b)) (nI s) = some (nI (zCO lz (pl 7 0) m s b), nI (zU lz (pl 7 0) (zCO lz (pl 7 0) m s b)), nI (2 ^ pl 7 0)) := by
  have hb := hw.1
  have hpw := pow7 (k := pl 7 0) (by omega)
  intro m
  induction m with
  | zero =>
    intro s n b hk hn h1
    obtain ⟨n, rfl⟩ : ∃ n', n = n' + 1 := ⟨n - 1, by omega⟩
    rw [L_X8_coat_49, if_pos (by rw [n_lt (by omega) (by omega)]; omega), show s = 2 ^ pl 7 0 by omega]
    rfl
  | succ m ih =>
    intro s n b hk hn h1
    obtain ⟨n, rfl⟩ : ∃ n', n = n' + 1 := ⟨n - 1, by omega⟩
    have hz := zSZ_b (lz := lz) s (pl 7 0) hl
    have hu1 := zU_b (n := pl 7 0) (by omega) hl s
    have hu2 := zU_b (n := pl 7 0) (by omega) hl b
    have e1 : f_X5_sumOfSet (fun j => X (35 + j)) (fun j => X (31 + j)) (nI s) = some (iI (zSZ lz s (pl 7 0))) := by
      rw [ssX (P := fun j => X (35 + j)) hp hw (by omega)]
      exact congrArg some (zSS_e s hg)
    have e2 : (iI (zSI lz (pl 7 0)) - iI (zSZ lz s (pl 7 0))) - iI (zSZ lz s (pl 7 0)) = iI (zSI lz (pl 7 0) - 2 * zSZ lz s (pl 7 0)) := by
      rw [iI_sub, iI_sub]
      congr 1
      omega
    rw [L_X8_coat_49, if_neg (by rw [n_lt (by omega) (by omega)]; omega), pb1 e1, e2, pv, zabs_e1, zabs_i (by omega) (by omega), zCO]
    have key : (if nI (zU lz (pl 7 0) b) ≤ nI (zSI lz (pl 7 0) - 2 * zSZ lz s (pl 7 0)).natAbs then some (nI b, nI (zU lz (pl 7 0) b)) else some (nI s, nI (zSI lz (pl 7 0) - 2 * zSZ lz s (pl 7 0)).natAbs)) = some (nI (zco lz (pl 7 0) b s), nI (zU lz (pl 7 0) (zco lz (pl 7 0) b s))) := by
      unfold zco
      by_cases c : zU lz (pl 7 0) s < zU lz (pl 7 0) b
      · rw [if_neg (by show ¬ nI (zU lz (pl 7 0) b) ≤ nI (zU lz (pl 7 0) s); rw [n_le (by omega) (by omega)]; omega), if_pos c]
        rfl
      · rw [if_pos (by show nI (zU lz (pl 7 0) b) ≤ nI (zU lz (pl 7 0) s); rw [n_le (by omega) (by omega)]; omega), if_neg c]
    rw [pb2 key, pv, n_1, n_add]
    exact ih (s + 1) n _ (by omega) (by omega) (by omega)
theorem coi_loop {M : zMm} {pl : zN} (hp : M 6 0 = nI (pl 7 0)) (hw : iWF pl) {s : Nat} (hs : s < 2147483648) (l1 l2 l3 : Int32) : ∀ m k n, k + m = pl 7 0 → m < n → L_X9_coat_42 M l1 l2 l3 (nI s) n (zSUM (fun i => if zbit s i then M 19 i else -M 19 i) k) (nI k) = some (zSUM (fun i => if zbit s i then M 19 i else -M 19 i) (pl 7 0), nI (pl 7 0)) := by
  have hb := hw.1
  intro m
  induction m with
  | zero =>
    intro k n hk hn
    obtain ⟨n, rfl⟩ : ∃ n', n = n' + 1 := ⟨n - 1, by omega⟩
    rw [L_X9_coat_42, hp, if_pos (by rw [n_le (by omega) (by omega)]; omega), show k = pl 7 0 by omega]
  | succ m ih =>
    intro k n hk hn
    obtain ⟨n, rfl⟩ : ∃ n', n = n' + 1 := ⟨n - 1, by omega⟩
    have e : (if ((nI s >>> (nI k &&& 31)) &&& 1) = 1 then zl 7 (M 19) (nI k) (fun v13 => some v13) else zl 7 (M 19) (nI k) (fun v12 => some (-v12))) = some (if zbit s k then M 19 k else -M 19 k) := by
      by_cases c : zbit s k = true
      · rw [if_pos ((bitI hs (by omega)).mpr c), if_pos c, pl_k rfl (by omega) (by omega)]
      · rw [if_neg (fun q => c ((bitI hs (by omega)).mp q)), if_neg c, pl_k rfl (by omega) (by omega)]
    rw [L_X9_coat_42, hp, if_neg (by rw [n_le (by omega) (by omega)]; omega), pb1 e, pv, pv, n_1, n_add]
    exact ih (k + 1) n (by omega) (by omega)
theorem coMd {M : zMm} {pl : zN} {lz : Nat → Int} (hp : M 6 0 = nI (pl 7 0)) (hw : iWF pl) (hg : ∀ i, i < pl 7 0 → M 19 i = iI (lz i)) (hl : ∀ i, i < pl 7 0 → 1 ≤ lz i ∧ lz i ≤ 299) {s : Nat} (hs : s < 2147483648) (l1 l2 l3 : Int32) : L_X9_coat_42 M l1 l2 l3 (nI s) 100000 0 0 = some (iI (2 * zSZ lz s (pl 7 0) - zSI lz (pl 7 0)), nI (pl 7 0)) := by
  have e : L_X9_coat_42 M l1 l2 l3 (nI s) 100000 0 0 = _ := coi_loop hp hw hs l1 l2 l3 (pl 7 0) 0 100000 (by omega) (by have := hw.1; omega)
  rw [e]
  have e2 : zSUM (fun i => if zbit s i then M 19 i else -M 19 i) (pl 7 0) = iI (zSI (fun i => if zbit s i then lz i else -lz i) (pl 7 0)) := zSI_e _ (fun i hi => by
    show (if zbit s i then M 19 i else -M 19 i) = iI (if zbit s i then lz i else -lz i)
    by_cases c : zbit s i = true
    · rw [if_pos c, if_pos c]; exact hg i hi
    · rw [if_neg c, if_neg c, hg i hi, iI_neg])
  rw [e2, zDZ_e]
theorem coM_loop {M : zMm} {pl : zN} {lz : Nat → Int} (hp : M 6 0 = nI (pl 7 0)) (hw : iWF pl) (hg : ∀ i, i < pl 7 0 → M 19 i = iI (lz i)) (hl : ∀ i, i < pl 7 0 → 1 ≤ lz i ∧ lz i ≤ 299) (a : Int32) : ∀ m s n b, s + m = 2 ^ pl 7 0 → m < n → L_X9_coat_23 M a n (nI b) (nI (zU lz (pl 7 0) b)) (nI s) = some (nI (zCO lz (pl 7 0) m s b), nI (zU lz (pl 7 0) (zCO lz (pl 7 0) m s b)), nI (2 ^ pl 7 0)) := by
  have hb := hw.1
  have hpw := pow7 (k := pl 7 0) (by omega)
  intro m
  induction m with
  | zero =>
    intro s n b hk hn
    obtain ⟨n, rfl⟩ : ∃ n', n = n' + 1 := ⟨n - 1, by omega⟩
    rw [L_X9_coat_23, hp, shl1 (by omega), if_pos (by rw [n_le (by omega) (by omega)]; omega), show s = 2 ^ pl 7 0 by omega]
    rfl
  | succ m ih =>
    intro s n b hk hn
    obtain ⟨n, rfl⟩ : ∃ n', n = n' + 1 := ⟨n - 1, by omega⟩
    have hz := zSZ_b (lz := lz) s (pl 7 0) hl
    have hu1 := zU_b (n := pl 7 0) (by omega) hl s
    have hu2 := zU_b (n := pl 7 0) (by omega) hl b
    have hab : (2 * zSZ lz s (pl 7 0) - zSI lz (pl 7 0)).natAbs = zU lz (pl 7 0) s := by unfold zU; omega
    rw [L_X9_coat_23, hp, shl1 (by omega), if_neg (by rw [n_le (by omega) (by omega)]; omega), pb2 (coMd hp hw hg hl (by omega) _ _ _), zabs_e2, zabs_i (by omega) (by omega), pb1 rfl, hab, zCO]
    have key : (if nI (zU lz (pl 7 0) b) < 0 then some (nI s, nI (zU lz (pl 7 0) s)) else if nI (zU lz (pl 7 0) b) ≤ nI (zU lz (pl 7 0) s) then some (nI b, nI (zU lz (pl 7 0) b)) else some (nI s, nI (zU lz (pl 7 0) s))) = some (nI (zco lz (pl 7 0) b s), nI (zU lz (pl 7 0) (zco lz (pl 7 0) b s))) := by
      unfold zco
      rw [if_neg (nI_pos (by omega))]
      by_cases c : zU lz (pl 7 0) s < zU lz (pl 7 0) b
      · rw [if_neg (by rw [n_le (by omega) (by omega)]; omega), if_pos c]
      · rw [if_pos (by rw [n_le (by omega) (by omega)]; omega), if_neg c]
    rw [pb2 key, pv, n_1, n_add]
    exact ih (s + 1) n _ (by omega) (by omega)
theorem coM_all {M : zMm} {pl : zN} {lz : Nat → Int} (hp : M 6 0 = nI (pl 7 0)) (hw : iWF pl) (hg : ∀ i, i < pl 7 0 → M 19 i = iI (lz i)) (hl : ∀ i, i < pl 7 0 → 1 ≤ lz i ∧ lz i ≤ 299) (a : Int32) : L_X9_coat_23 M a 100000 0 (-1) 0 = some (nI (zCO lz (pl 7 0) (2 ^ pl 7 0 - 1) 1 0), nI (zU lz (pl 7 0) (zCO lz (pl 7 0) (2 ^ pl 7 0 - 1) 1 0)), nI (2 ^ pl 7 0)) := by
  have hb := hw.1
  have hpw := pow7 (k := pl 7 0) (by omega)
  have hpos : 0 < 2 ^ pl 7 0 := Nat.pow_pos (by omega)
  have hz := zSZ_b (lz := lz) 0 (pl 7 0) hl
  have hu1 := zU_b (n := pl 7 0) (by omega) hl 0
  have hab : (2 * zSZ lz 0 (pl 7 0) - zSI lz (pl 7 0)).natAbs = zU lz (pl 7 0) 0 := by unfold zU; omega
  have e0 : L_X9_coat_42 M a 0 (-1) 0 100000 0 0 = _ := coMd (s := 0) hp hw hg hl (by omega) a 0 (-1)
  rw [L_X9_coat_23, hp, shl1 (by omega), if_neg (by rw [n_0, n_le (by omega) (by omega)]; omega), pb2 e0, zabs_e2, zabs_i (by omega) (by omega), pb1 rfl, hab, if_pos (by decide), pb2 rfl, pv, n_0, n_1, n_add]
  exact coM_loop hp hw hg hl a (2 ^ pl 7 0 - 1) 1 99999 0 (by omega) (by omega)
theorem q_coat {X M : zMm} (h : Inv X M) (a : Int32) : ∃ r X2 M2, f_X8_coat X a = some (r, X2) ∧ f_X9_coat M a = some (r, M2) ∧ Inv X2 M2 := by
  obtain ⟨pl, t, hw, hn, hpx, hpm, h5, ⟨o, hox, hlen, hfm⟩, h7, h8, h9, h10, h11, h12⟩ := id h
  have hb := hw.1
  have hom : iOrd (M 10) o := ordM (pl := pl) hox hfm
  have hI : Inv (zs X 31 (zfill (zLEN pl o (X 4)) (X 31) (pl 7 0))) (zs M 19 (zfill (zLEN pl o (zLM M)) (M 19) (pl 7 0))) := inv_fr h (uX_zs (fun _ _ => rfl) rfl) (uM_zs (fun _ _ => rfl) rfl)
  have hl : ∀ i, i < pl 7 0 → 1 ≤ (zLEN pl o (X 4) i).toInt ∧ (zLEN pl o (X 4) i).toInt ≤ 299 := hlen
  have gX : ∀ i, i < pl 7 0 → (zs X 31 (zfill (zLEN pl o (X 4)) (X 31) (pl 7 0))) 31 i = iI ((zLEN pl o (X 4) i).toInt) := fun i hi => by
    rw [iI_of]
    exact zfill_in _ _ hi
  have gM : ∀ i, i < pl 7 0 → (zs M 19 (zfill (zLEN pl o (zLM M)) (M 19) (pl 7 0))) 19 i = iI ((zLEN pl o (X 4) i).toInt) := fun i hi => by
    rw [iI_of]
    exact (zfill_in _ _ hi).trans (ft_len hw (fun k hk => (hfm k hk).2) i hi)
  have hpos : 0 < 2 ^ pl 7 0 := Nat.pow_pos (by omega)
  have hpw := pow7 (k := pl 7 0) (by omega)
  have hz := zSZ_b (lz := fun i => (zLEN pl o (X 4) i).toInt) 0 (pl 7 0) hl
  have e7 : (zs X 31 (zfill (zLEN pl o (X 4)) (X 31) (pl 7 0))) 42 0 = nI (pl 7 0) := hpx.1.2.1
  have m7 : (zs M 19 (zfill (zLEN pl o (zLM M)) (M 19) (pl 7 0))) 6 0 = nI (pl 7 0) := hpm.1.2.1
  have eSh : (1 : Int32) <<< ((zs X 31 (zfill (zLEN pl o (X 4)) (X 31) (pl 7 0))) 42 0 &&& 31) - 1 = nI (2 ^ pl 7 0 - 1) := by
    rw [e7, shl1 (by omega), n_1, pk_sub (by omega)]
  have eA : f_X5_sumOfSet (fun j => (zs X 31 (zfill (zLEN pl o (X 4)) (X 31) (pl 7 0))) (35 + j)) (fun j => (zs X 31 (zfill (zLEN pl o (X 4)) (X 31) (pl 7 0))) (31 + j)) (nI (2 ^ pl 7 0 - 1)) = some (iI (zSI (fun i => (zLEN pl o (X 4) i).toInt) (pl 7 0))) := by
    rw [ssX (P := fun j => (zs X 31 (zfill (zLEN pl o (X 4)) (X 31) (pl 7 0))) (35 + j)) e7 hw (by omega)]
    refine congrArg some ((zSS_e (2 ^ pl 7 0 - 1) gX).trans ?_)
    rw [zSZ_A (by omega) _ (Nat.le_refl _)]
  have hU0 : iI (zSI (fun i => (zLEN pl o (X 4) i).toInt) (pl 7 0)) = nI (zU (fun i => (zLEN pl o (X 4) i).toInt) (pl 7 0) 0) := by
    unfold zU
    rw [zSZ_0, ← iI_n]
    congr 1
    omega
  have eX : L_X8_coat_49 (zs X 31 (zfill (zLEN pl o (X 4)) (X 31) (pl 7 0))) a (nI (2 ^ pl 7 0 - 1)) (iI (zSI (fun i => (zLEN pl o (X 4) i).toInt) (pl 7 0))) 100000 0 (nI (zU (fun i => (zLEN pl o (X 4) i).toInt) (pl 7 0) 0)) 1 = _ := coX_loop e7 hw gX hl a (2 ^ pl 7 0 - 1) 1 100000 0 (by omega) (by omega) (by omega)
  rw [← hU0] at eX
  have eM := coM_all m7 hw gM hl a
  unfold f_X8_coat f_X9_coat
  rcases two (b := a) with (c | c) | c
  · rw [if_pos c, pb1 (measX hpx hw hox), pv, eSh, pb1 eA, pb3 eX, if_pos c, pb1 (in_y (tL _) (lo := 0) (hi := 1) rfl rfl (by rw [c]; decide) (by rw [c]; decide)), if_neg i10, pb1 (measM hpm hw hom), pb3 eM, if_pos c]
    exact ⟨_, _, _, rfl, rfl, hI⟩
  · have c0 : ¬ a = 0 := by rw [c]; decide
    rw [if_neg c0, if_pos c, pb1 (measX hpx hw hox), pv, eSh, pb1 eA, pb3 eX, if_neg c0, pb1 (in_y (tL _) (lo := 0) (hi := 1) rfl rfl (by rw [c]; decide) (by rw [c]; decide)), if_neg i10, pb1 (measM hpm hw hom), pb3 eM, if_neg c0]
    exact ⟨_, _, _, rfl, rfl, hI⟩
  · have e0 : (0 : Int32).toInt = 0 := rfl
    have e1 : (1 : Int32).toInt = 1 := rfl
    have c0 : ¬ a = 0 := fun e => by rw [e] at c; omega
    have c1 : ¬ a = 1 := fun e => by rw [e] at c; omega
    rw [if_neg c0, if_neg c1, pb1 (in_n (tL _) (lo := 0) (hi := 1) rfl rfl c), if_pos rfl]
    exact ⟨_, _, _, rfl, rfl, h⟩
