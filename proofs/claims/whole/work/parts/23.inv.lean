/-! class and reference side by side -/
def iTxt (X M : zMm) (t : Nat) : Prop := t ≤ 300 ∧ X 2 0 = nI t ∧ M 0 0 = nI t ∧ ∀ i, i < t → X 0 i = M 1 i ∧ (M 1 i).toInt8.toInt32 = M 1 i
def iLen (pl : zN) (o : Nat → Nat) (lg : Nat → Int32) : Prop := ∀ i, i < pl 7 0 → 1 ≤ (zLEN pl o lg i).toInt ∧ (zLEN pl o lg i).toInt ≤ 299
def iFt (pl : zN) (fx gx fm : Nat → Int32) : Prop := ∃ o, iOrd fx o ∧ iLen pl o gx ∧ ∀ k, k < 7 → fm k = fx k ∧ fm (7 + k) = gx k
def iUn (X M : zMm) (pl : zN) (dn nx : Nat) : Prop := dn ≤ 8 ∧ nx < 8 ∧ X 5 0 = 8 ∧ X 8 0 = nI dn ∧ X 9 0 = nI nx ∧ M 12 0 = nI dn ∧ ∀ d, d < dn → iFt pl (fun k => X 6 (7 * ((nx + 8 - dn + d) % 8) + k)) (fun k => X 7 (7 * ((nx + 8 - dn + d) % 8) + k)) (fun k => M 10 (14 * (3 + d) + k))
def iKp (X M : zMm) (pl : zN) (kn kx : Nat) : Prop := kn ≤ 2 ∧ kx < 2 ∧ X 10 0 = 2 ∧ X 13 0 = nI kn ∧ X 14 0 = nI kx ∧ M 11 0 = nI kn ∧ ∀ d, d < kn → iFt pl (fun k => X 11 (7 * ((kx + 2 - kn + d) % 2) + k)) (fun k => X 12 (7 * ((kx + 2 - kn + d) % 2) + k)) (fun k => M 10 (14 * (1 + d) + k))
def iSe (X M : zMm) (sn : Nat) : Prop := sn ≤ 10 ∧ X 18 0 = nI sn ∧ M 13 0 = nI sn ∧ ∀ k, k < sn → X 15 k = M 14 (3 * k) ∧ X 16 k = M 14 (3 * k + 1) ∧ X 17 k = M 14 (3 * k + 2)
def zcnt (p : Nat → Bool) : Nat → Nat
  | 0 => 0
  | n + 1 => zcnt p n + if p n then 1 else 0
def zTH (pl : zN) (ps : Nat → Nat) (k : Nat) : Nat := pl 1 (if zcnt (fun j => decide (ps j = ps k)) k % 2 = 0 then pl 4 (ps k) else pl 5 (ps k))
def iPi (X M : zMm) (pl : zN) (pn : Nat) (ps : Nat → Nat) : Prop := pn ≤ 12 ∧ X 21 0 = nI pn ∧ M 15 0 = nI pn ∧ ∀ k, k < pn → ps k < pl 8 0 ∧ X 19 k = nI (ps k) ∧ M 16 k = nI (ps k) ∧ X 20 k = nI (zTH pl ps k)
def iOr (X : zMm) (pl : zN) : Prop := X 23 0 = 0 ∨ (X 23 0 = 1 ∧ ∃ Y P Y1, iPlX P pl ∧ f_X3_search Y P = some Y1 ∧ X 24 0 = Y1 2 0 ∧ ∀ i, i < 7 → X 22 i = Y1 0 i)
def iBo (X : zMm) : Prop := ∀ k, k < 7 → X 29 k = 0
def Inv (X M : zMm) : Prop := ∃ (pl : zN) (t : Nat), iWF pl ∧ 1 ≤ pl 7 0 ∧ iPlX (fun j => X (35 + j)) pl ∧ iPlM M pl ∧ iTxt X M t ∧ iFt pl (X 3) (X 4) (M 10) ∧ (∃ dn nx, iUn X M pl dn nx) ∧ (∃ kn kx, iKp X M pl kn kx) ∧ (∃ sn, iSe X M sn) ∧ (∃ pn ps, iPi X M pl pn ps) ∧ iOr X pl ∧ iBo X
/-- the places that count -/
def uX (j : Nat) : Bool := [0, 2, 3, 4, 5, 6, 7, 8, 9, 10, 11, 12, 13, 14, 15, 16, 17, 18, 19, 20, 21, 22, 23, 24, 29, 35, 36, 37, 38, 39, 40, 41, 42, 43, 44, 45, 46].contains j
def uM (j : Nat) : Bool := [0, 1, 3, 4, 5, 6, 7, 8, 9, 10, 11, 12, 13, 14, 15, 16].contains j
theorem inv_fr {X M X2 M2 : zMm} (h : Inv X M) (hX : ∀ j, uX j = true → X2 j = X j) (hM : ∀ j, uM j = true → M2 j = M j) : Inv X2 M2 := by
  obtain ⟨pl, t, h1, h2, h3, h4, h5, h6, ⟨dn, nx, h7⟩, ⟨kn, kx, h8⟩, ⟨sn, h9⟩, ⟨pn, ps, h10⟩, h11, h12⟩ := h
  refine ⟨pl, t, h1, h2, ?_, ?_, ?_, ?_, ⟨dn, nx, ?_⟩, ⟨kn, kx, ?_⟩, ⟨sn, ?_⟩, ⟨pn, ps, ?_⟩, ?_, ?_⟩
  · unfold iPlX at h3 ⊢
    simp only [hX (35 + 0) rfl, hX (35 + 1) rfl, hX (35 + 2) rfl, hX (35 + 3) rfl, hX (35 + 4) rfl, hX (35 + 5) rfl, hX (35 + 6) rfl, hX (35 + 7) rfl, hX (35 + 8) rfl, hX (35 + 9) rfl, hX (35 + 10) rfl, hX (35 + 11) rfl]
    exact h3
  · unfold iPlM at h4 ⊢
    simp only [hM 3 rfl, hM 4 rfl, hM 5 rfl, hM 6 rfl, hM 7 rfl, hM 8 rfl, hM 9 rfl]
    exact h4
  · unfold iTxt at h5 ⊢
    simp only [hX 0 rfl, hX 2 rfl, hM 0 rfl, hM 1 rfl]
    exact h5
  · rw [hX 3 rfl, hX 4 rfl, hM 10 rfl]
    exact h6
  · unfold iUn at h7 ⊢
    simp only [hX 5 rfl, hX 6 rfl, hX 7 rfl, hX 8 rfl, hX 9 rfl, hM 12 rfl, hM 10 rfl]
    exact h7
  · unfold iKp at h8 ⊢
    simp only [hX 10 rfl, hX 11 rfl, hX 12 rfl, hX 13 rfl, hX 14 rfl, hM 11 rfl, hM 10 rfl]
    exact h8
  · unfold iSe at h9 ⊢
    simp only [hX 15 rfl, hX 16 rfl, hX 17 rfl, hX 18 rfl, hM 13 rfl, hM 14 rfl]
    exact h9
  · unfold iPi at h10 ⊢
    simp only [hX 19 rfl, hX 20 rfl, hX 21 rfl, hM 15 rfl, hM 16 rfl]
    exact h10
  · unfold iOr at h11 ⊢
    simp only [hX 22 rfl, hX 23 rfl, hX 24 rfl]
    exact h11
  · unfold iBo at h12 ⊢
    simp only [hX 29 rfl]
    exact h12
theorem uX_zs {X X2 : zMm} {k : Nat} {g : Nat → Int32} (h : ∀ j, uX j = true → X2 j = X j) (hk : uX k = false) : ∀ j, uX j = true → zs X2 k g j = X j := fun j hj => by
  rw [zs_n _ _ (fun e => by subst e; rw [hj] at hk; cases hk)]
  exact h j hj
theorem uM_zs {X X2 : zMm} {k : Nat} {g : Nat → Int32} (h : ∀ j, uM j = true → X2 j = X j) (hk : uM k = false) : ∀ j, uM j = true → zs X2 k g j = X j := fun j hj => by
  rw [zs_n _ _ (fun e => by subst e; rw [hj] at hk; cases hk)]
  exact h j hj
/-! is it a part, a tailor, a seam -/
theorem hasX_yes {n i : Nat} (h : i < n) (hn : n < 2147483648) : ¬ nI i < 0 ∧ ¬ nI n ≤ nI i := ⟨nI_pos (by omega), fun q => by rw [n_le hn (by omega)] at q; omega⟩
theorem hasPartX {P : zMm} {pl : zN} (hp : iPlX P pl) (hw : iWF pl) {i : Nat} (h : i < pl 7 0) : f_X5_hasPart P (nI i) = some 1 := by
  have hb := hw.1
  unfold f_X5_hasPart
  rw [hp.1.2.1, if_neg (hasX_yes h (by omega)).1, if_neg (hasX_yes h (by omega)).2]
theorem hasPartX_no {P : zMm} {pl : zN} (hp : iPlX P pl) (hw : iWF pl) {a : Int32} (h : ¬ vp_in a (pl 7 0)) : f_X5_hasPart P a = some 0 := by
  have hb := hw.1
  have h := not_in h
  unfold f_X5_hasPart
  rw [hp.1.2.1]
  by_cases c : a < 0
  · rw [if_pos c]
  · rw [if_neg c, if_pos (by rw [leT, nT (by omega)]; rw [ltT] at c; have : (0 : Int32).toInt = 0 := rfl; omega)]
theorem hasTailorX {P : zMm} {pl : zN} (hp : iPlX P pl) (hw : iWF pl) {i : Nat} (h : i < pl 6 0) : f_X5_hasTailor P (nI i) = some 1 := by
  have hb := hw.1
  unfold f_X5_hasTailor
  rw [hp.1.1, if_neg (hasX_yes h (by omega)).1, if_neg (hasX_yes h (by omega)).2]
theorem hasTailorX_no {P : zMm} {pl : zN} (hp : iPlX P pl) (hw : iWF pl) {a : Int32} (h : ¬ vp_in a (pl 6 0)) : f_X5_hasTailor P a = some 0 := by
  have hb := hw.1
  have h := not_in h
  unfold f_X5_hasTailor
  rw [hp.1.1]
  by_cases c : a < 0
  · rw [if_pos c]
  · rw [if_neg c, if_pos (by rw [leT, nT (by omega)]; rw [ltT] at c; have : (0 : Int32).toInt = 0 := rfl; omega)]
theorem hasSeamX {P : zMm} {pl : zN} (hp : iPlX P pl) (hw : iWF pl) {i : Nat} (h : i < pl 8 0) : f_X5_hasSeam P (nI i) = some 1 := by
  have hb := hw.1
  unfold f_X5_hasSeam
  rw [hp.1.2.2.1, if_neg (hasX_yes h (by omega)).1, if_neg (hasX_yes h (by omega)).2]
theorem hasSeamX_no {P : zMm} {pl : zN} (hp : iPlX P pl) (hw : iWF pl) {a : Int32} (h : ¬ vp_in a (pl 8 0)) : f_X5_hasSeam P a = some 0 := by
  have hb := hw.1
  have h := not_in h
  unfold f_X5_hasSeam
  rw [hp.1.2.2.1]
  by_cases c : a < 0
  · rw [if_pos c]
  · rw [if_neg c, if_pos (by rw [leT, nT (by omega)]; rw [ltT] at c; have : (0 : Int32).toInt = 0 := rfl; omega)]
theorem inM {v : Int32} {n : Nat} (hn : n < 2147483648) (L : Int64) (lo : Int) (hL : L.toInt = lo) : f_X9_in v.toInt64 L (nI n - 1).toInt64 = some (if lo ≤ v.toInt ∧ v.toInt ≤ (n : Int) - 1 then 1 else 0) := in_eq (tL v) hL (tL1 hn)
theorem in_y {v L H : Int64} {a lo hi : Int} (hv : v.toInt = a) (hL : L.toInt = lo) (hH : H.toInt = hi) (h1 : lo ≤ a) (h2 : a ≤ hi) : f_X9_in v L H = some 1 := by rw [in_eq hv hL hH, if_pos ⟨h1, h2⟩]
theorem in_n {v L H : Int64} {a lo hi : Int} (hv : v.toInt = a) (hL : L.toInt = lo) (hH : H.toInt = hi) (h : a < lo ∨ hi < a) : f_X9_in v L H = some 0 := by rw [in_eq hv hL hH, if_neg (by omega)]
theorem isPartM {M : zMm} {pl : zN} (hp : iPlM M pl) (hw : iWF pl) {i : Nat} (h : i < pl 7 0) : f_X9_isPart M (nI i) = some 1 := by
  have hb := hw.1
  unfold f_X9_isPart
  rw [hp.1.2.1, pb1 (inM (by omega) 0 0 rfl), nT (by omega), if_pos (by omega), po1]
theorem isPartM_no {M : zMm} {pl : zN} (hp : iPlM M pl) (hw : iWF pl) {a : Int32} (h : ¬ vp_in a (pl 7 0)) : f_X9_isPart M a = some 0 := by
  have hb := hw.1
  have h := not_in h
  unfold f_X9_isPart
  rw [hp.1.2.1, pb1 (inM (by omega) 0 0 rfl), if_neg (by omega), po0]
theorem isTailorM {M : zMm} {pl : zN} (hp : iPlM M pl) (hw : iWF pl) {i : Nat} (h : i < pl 6 0) : f_X9_isTailor M (nI i) = some 1 := by
  have hb := hw.1
  unfold f_X9_isTailor
  rw [hp.1.1, pb1 (inM (by omega) 0 0 rfl), nT (by omega), if_pos (by omega), po1]
theorem isTailorM_no {M : zMm} {pl : zN} (hp : iPlM M pl) (hw : iWF pl) {a : Int32} (h : ¬ vp_in a (pl 6 0)) : f_X9_isTailor M a = some 0 := by
  have hb := hw.1
  have h := not_in h
  unfold f_X9_isTailor
  rw [hp.1.1, pb1 (inM (by omega) 0 0 rfl), if_neg (by omega), po0]
theorem i10 : ¬ (1 : Int32) = 0 := by decide
theorem ft_len {pl : zN} {o : Nat → Nat} {f g : Nat → Int32} (hw : iWF pl) (e : ∀ k, k < 7 → f k = g k) : ∀ i, i < pl 7 0 → zLEN pl o f i = zLEN pl o g i := fun i hi => by
  have := hw.1
  unfold zLEN
  rw [e i (by omega)]
theorem sw {α : Type} {r r2 : Int32} {Z : α} (e : r = r2) : some (r, Z) = some (r2, Z) := by rw [e]
/-! gap, closes -/
theorem m1 : (-1 : Int32).toInt = -1 := rfl
theorem nI_m1 {i : Nat} (h : i < 2147483648) : ¬ nI i = -1 := by
  rw [eqT, nT h, m1]
  omega
theorem q_gap {X M : zMm} (h : Inv X M) (a : Int32) : ∃ r X2 M2, f_X8_gap X a = some (r, X2) ∧ f_X9_gap M a = some (r, M2) ∧ Inv X2 M2 := by
  obtain ⟨pl, t, hw, hn, hpx, hpm, h5, ⟨o, hox, hlen, hfm⟩, h7, h8, h9, h10, h11, h12⟩ := id h
  have hb := hw.1
  have hom : iOrd (M 10) o := ⟨fun k hk => ⟨(hfm k hk).1.trans (hox.1 k hk).1, (hox.1 k hk).2⟩, hox.2⟩
  have eL : ∀ i, i < pl 7 0 → zfill (zLEN pl o (X 4)) (X 31) (pl 7 0) i = zfill (zLEN pl o (zLM M)) (M 19) (pl 7 0) i := fun i hi => by
    rw [zfill_in _ _ hi, zfill_in _ _ hi]
    exact ft_len hw (fun k hk => (hfm k hk).2.symm) i hi
  have hI : Inv (zs X 31 (zfill (zLEN pl o (X 4)) (X 31) (pl 7 0))) (zs M 19 (zfill (zLEN pl o (zLM M)) (M 19) (pl 7 0))) := inv_fr h (uX_zs (fun _ _ => rfl) rfl) (uM_zs (fun _ _ => rfl) rfl)
  unfold f_X8_gap f_X9_gap
  rw [hpm.1.2.2.1]
  by_cases c : a = -1
  · rw [if_pos c, pb1 (in_y (tL a) (lo := -1) rfl (tL1 (by omega)) (by rw [c, m1]; omega) (by rw [c, m1]; omega)), if_neg i10, pb1 (measX hpx hw hox), pb1 (measM hpm hw hom), if_pos c, if_neg (by rw [c]; decide)]
    rw [pb1 (sumX (P := fun j => (zs X 31 (zfill (zLEN pl o (X 4)) (X 31) (pl 7 0))) (35 + j)) hpx hw), pb1 (sumM (M := zs M 19 (zfill (zLEN pl o (zLM M)) (M 19) (pl 7 0))) hpm hw)]
    refine ⟨_, _, _, rfl, ?_, hI⟩
    exact sw (zSUM_c (fun s hs => (zGAP_c hw eL hs).symm))
  · rw [if_neg c]
    rcases ix a (n := pl 8 0) (by omega) with ⟨i, hi, rfl⟩ | hi
    · rw [pb1 (hasSeamX hpx hw hi), if_neg i10, pb1 (in_y (tL _) (lo := -1) rfl (tL1 (by omega)) (by rw [nT (by omega)]; omega) (by rw [nT (by omega)]; omega)), if_neg i10, pb1 (measX hpx hw hox), pb1 (measM hpm hw hom), if_neg c, if_pos (nI_pos' (by omega))]
      rw [pb1 (gapX (P := fun j => (zs X 31 (zfill (zLEN pl o (X 4)) (X 31) (pl 7 0))) (35 + j)) hpx hw hi), pb1 (gapM (M := zs M 19 (zfill (zLEN pl o (zLM M)) (M 19) (pl 7 0))) hpm hw hi)]
      refine ⟨_, _, _, rfl, ?_, hI⟩
      exact sw (zGAP_c hw eL hi).symm
    · have hni := not_in hi
      have : ¬ a.toInt = -1 := fun e => c (eqT.mpr e)
      rw [pb1 (hasSeamX_no hpx hw hi), if_pos rfl, pb1 (in_n (tL a) (lo := -1) rfl (tL1 (by omega)) (by omega)), if_pos rfl]
      exact ⟨_, _, _, rfl, rfl, h⟩
theorem q_closes {X M : zMm} (h : Inv X M) : ∃ r X2 M2, f_X8_closes X = some (r, X2) ∧ f_X9_closes M = some (r, M2) ∧ Inv X2 M2 := by
  obtain ⟨pl, t, hw, hn, hpx, hpm, h5, ⟨o, hox, hlen, hfm⟩, h7, h8, h9, h10, h11, h12⟩ := id h
  have hb := hw.1
  have hom : iOrd (M 10) o := ⟨fun k hk => ⟨(hfm k hk).1.trans (hox.1 k hk).1, (hox.1 k hk).2⟩, hox.2⟩
  have eL : ∀ i, i < pl 7 0 → zfill (zLEN pl o (X 4)) (X 31) (pl 7 0) i = zfill (zLEN pl o (zLM M)) (M 19) (pl 7 0) i := fun i hi => by
    rw [zfill_in _ _ hi, zfill_in _ _ hi]
    exact ft_len hw (fun k hk => (hfm k hk).2.symm) i hi
  have hI : Inv (zs X 31 (zfill (zLEN pl o (X 4)) (X 31) (pl 7 0))) (zs M 19 (zfill (zLEN pl o (zLM M)) (M 19) (pl 7 0))) := inv_fr h (uX_zs (fun _ _ => rfl) rfl) (uM_zs (fun _ _ => rfl) rfl)
  unfold f_X8_closes f_X9_closes
  rw [pb1 (measX hpx hw hox), pb1 (measM hpm hw hom)]
  rw [pb1 (cloX (P := fun j => (zs X 31 (zfill (zLEN pl o (X 4)) (X 31) (pl 7 0))) (35 + j)) hpx hw), pb1 (cloM (M := zs M 19 (zfill (zLEN pl o (zLM M)) (M 19) (pl 7 0))) hpm hw)]
  have e := zCLO_c hw eL
  have e1 : zCLO pl ((fun j => zs X 31 (zfill (zLEN pl o (X 4)) (X 31) (pl 7 0)) (31 + j)) 0) = zCLO pl (zs M 19 (zfill (zLEN pl o (zLM M)) (M 19) (pl 7 0)) 19) := e
  rw [e1]
  cases zCLO pl (zs M 19 (zfill (zLEN pl o (zLM M)) (M 19) (pl 7 0)) 19) with
  | true => exact ⟨_, _, _, if_neg i10, if_neg i10, hI⟩
  | false => exact ⟨_, _, _, if_pos rfl, if_pos rfl, hI⟩
