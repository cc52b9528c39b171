/-! years -/
def zcb (pl : zN) (o : Nat → Nat) (z : Nat) (i : Nat) : Int32 := zcut pl i (iI (zSL i (zpos o i) z))
theorem cbX_loop {X : zMm} {pl : zN} {o : Nat → Nat} (hp : iPlX (fun j => X (35 + j)) pl) (hw : iWF pl) (ho : iOrd (X 3) o) {z : Nat} (hz : z < 1000) (g : Nat → Int32) : ∀ m k n, k + m = pl 7 0 → m < n → L_X8_cutByBoy_2 (nI z) n (nI k) (zs X 33 (zfill (zcb pl o z) g k)) = some (nI (pl 7 0), zs X 33 (zfill (zcb pl o z) g (pl 7 0))) := by
  have hb := hw.1
  have e7 : ∀ g, (zs X 33 g) 42 0 = nI (pl 7 0) := fun g => hp.1.2.1
  intro m
  induction m with
  | zero =>
    intro k n hk hn
    obtain ⟨n, rfl⟩ : ∃ n', n = n' + 1 := ⟨n - 1, by omega⟩
    rw [L_X8_cutByBoy_2, e7, if_pos (by rw [n_le (by omega) (by omega)]; omega), show k = pl 7 0 by omega]
  | succ m ih =>
    intro k n hk hn
    obtain ⟨n, rfl⟩ : ∃ n', n = n' + 1 := ⟨n - 1, by omega⟩
    rw [L_X8_cutByBoy_2, e7, if_neg (by rw [n_le (by omega) (by omega)]; omega), pb1 (placeX (P := fun j => (zs X 33 (zfill (zcb pl o z) g k)) (3 + j)) ho (by omega : k < 7)), pb1 (slipX (by omega : k < 7) (pos_ok ho (by omega)).1 hz), pb1 (cutX (P := fun j => (zs X 33 (zfill (zcb pl o z) g k)) (35 + j)) hp hw (by omega : k < pl 7 0) _), pw_k rfl (by omega) (by omega), pv, n_1, n_add, zs_s, zs_zs]
    have : zcut pl k (iI (zSL k (zpos o k) z)) = zcb pl o z k := rfl
    rw [this, zfill_s]
    exact ih (k + 1) n (by omega) (by omega)
theorem cbX {X : zMm} {pl : zN} {o : Nat → Nat} (hp : iPlX (fun j => X (35 + j)) pl) (hw : iWF pl) (ho : iOrd (X 3) o) {z : Nat} (hz : z < 1000) (g : Nat → Int32) : f_X8_cutByBoy (zs X 33 g) (nI z) = some (zs X 33 (zfill (zcb pl o z) g (pl 7 0))) := by
  unfold f_X8_cutByBoy
  have e := cbX_loop hp hw ho hz g (pl 7 0) 0 100000 (by omega) (by have := hw.1; omega)
  rw [zfill_0] at e
  have e : L_X8_cutByBoy_2 (nI z) 100000 0 (zs X 33 g) = _ := e
  rw [pb2 e]
theorem rem1000 {a : Nat} (h : a < 2147483648) : zrI (nI a) (1000 : Int32) = nI (a % 1000) := pk_rem (d := 1000) (by omega) (by omega) (by omega)
theorem cbM_loop {M : zMm} {pl : zN} {o : Nat → Nat} (hp : iPlM M pl) (hw : iWF pl) (ho : iOrd (M 10) o) {z kk : Nat} (hz : z < 1000) (hkk : kk < 1000) (l2 l3 l4 l5 : Int32) (g : Nat → Int32) : ∀ m k n, k + m = pl 7 0 → m < n → L_X9_year_54 (nI z) l2 l3 l4 l5 (nI kk) n (nI k) (zs M 19 (zfill (zcb pl o ((z + kk) % 1000)) g k)) = some (nI (pl 7 0), zs M 19 (zfill (zcb pl o ((z + kk) % 1000)) g (pl 7 0))) := by
  have hb := hw.1
  have e7 : ∀ g, (zs M 19 g) 6 0 = nI (pl 7 0) := fun g => hp.1.2.1
  intro m
  induction m with
  | zero =>
    intro k n hk hn
    obtain ⟨n, rfl⟩ : ∃ n', n = n' + 1 := ⟨n - 1, by omega⟩
    rw [L_X9_year_54, e7, if_pos (by rw [n_le (by omega) (by omega)]; omega), show k = pl 7 0 by omega]
  | succ m ih =>
    intro k n hk hn
    obtain ⟨n, rfl⟩ : ∃ n', n = n' + 1 := ⟨n - 1, by omega⟩
    rw [L_X9_year_54, e7, if_neg (by rw [n_le (by omega) (by omega)]; omega), pb1 (placeM (M := zs M 19 (zfill (zcb pl o ((z + kk) % 1000)) g k)) ho (by omega : k < 7)), n_add, rem1000 (by omega), pb1 (slipM (by omega : k < 7) (pos_ok ho (by omega)).1 (Nat.mod_lt _ (by omega))), pb1 (cutM (M := zs M 19 (zfill (zcb pl o ((z + kk) % 1000)) g k)) hp hw (by omega : k < pl 7 0) _), pw_k rfl (by omega) (by omega), pv, n_1, n_add, zs_s, zs_zs]
    have : zcut pl k (iI (zSL k (zpos o k) ((z + kk) % 1000))) = zcb pl o ((z + kk) % 1000) k := rfl
    rw [this, zfill_s]
    exact ih (k + 1) n (by omega) (by omega)
def zY1 (pl : zN) (o : Nat → Nat) (z k : Nat) : Int32 := zB (zCLO pl (zcb pl o ((z + k) % 1000)))
def zY2 (pl : zN) (o : Nat → Nat) (z k : Nat) : Int32 := zSUM (zGAP pl (zcb pl o ((z + k) % 1000))) (pl 8 0)
theorem zBif (b : Bool) : (if zB b = 0 then some (0 : Int32) else some (1 : Int32)) = some (zB b) := by cases b <;> rfl
theorem yeX_loop {X : zMm} {pl : zN} {o : Nat → Nat} (hp : iPlX (fun j => X (35 + j)) pl) (hw : iWF pl) (ho : iOrd (X 3) o) {z nn : Nat} (hz : z < 1000) (hnn : nn ≤ 100) (a3 : Int32) : ∀ m k n (g : Nat → Int32), k + m = nn → m < n → ∃ g2, L_X8_year_42 (nI z) (nI nn) a3 n (zSUM (zY1 pl o z) k) (zSUM (zY2 pl o z) k) (nI (z + k)) (zs X 33 g) = some (zSUM (zY1 pl o z) nn, zSUM (zY2 pl o z) nn, nI (z + nn), zs X 33 g2) := by
  have hb := hw.1
  intro m
  induction m with
  | zero =>
    intro k n g hk hn
    obtain ⟨n, rfl⟩ : ∃ n', n = n' + 1 := ⟨n - 1, by omega⟩
    refine ⟨g, ?_⟩
    rw [L_X8_year_42, n_add, if_pos (by rw [n_le (by omega) (by omega)]; omega), show k = nn by omega]
  | succ m ih =>
    intro k n g hk hn
    obtain ⟨n, rfl⟩ : ∃ n', n = n' + 1 := ⟨n - 1, by omega⟩
    have hin : ∀ i, i < pl 7 0 → zfill (zcb pl o ((z + k) % 1000)) g (pl 7 0) i = zcb pl o ((z + k) % 1000) i := fun i hi => zfill_in _ _ hi
    have e1 : f_X5_isClosedBy (fun j => zs X 33 (zfill (zcb pl o ((z + k) % 1000)) g (pl 7 0)) (35 + j)) (fun j => zs X 33 (zfill (zcb pl o ((z + k) % 1000)) g (pl 7 0)) (33 + j)) = some (zY1 pl o z k) := by
      rw [cloX (P := fun j => zs X 33 (zfill (zcb pl o ((z + k) % 1000)) g (pl 7 0)) (35 + j)) hp hw]
      exact congrArg (fun b => some (zB b)) (zCLO_c hw hin)
    have e2 : f_X5_sumOfGaps (fun j => zs X 33 (zfill (zcb pl o ((z + k) % 1000)) g (pl 7 0)) (35 + j)) (fun j => zs X 33 (zfill (zcb pl o ((z + k) % 1000)) g (pl 7 0)) (33 + j)) = some (zY2 pl o z k) := by
      rw [sumX (P := fun j => zs X 33 (zfill (zcb pl o ((z + k) % 1000)) g (pl 7 0)) (35 + j)) hp hw]
      exact congrArg some (zSUM_c (fun s hs => zGAP_c hw hin hs))
    rw [L_X8_year_42, n_add, if_neg (by rw [n_le (by omega) (by omega)]; omega), rem1000 (by omega), pb1 (cbX hp hw ho (Nat.mod_lt _ (by omega)) g), pb1 e1, zY1, zBif, pb1 rfl, pv, pb1 e2, pv, pv, n_1, n_add]
    exact ih (k + 1) n _ (by omega) (by omega)
theorem yeM_loop {M : zMm} {pl : zN} {o : Nat → Nat} (hp : iPlM M pl) (hw : iWF pl) (ho : iOrd (M 10) o) {z nn : Nat} (hz : z < 1000) (hnn : nn ≤ 100) (a3 : Int32) : ∀ m k n (g : Nat → Int32), k + m = nn → m < n → ∃ g2, L_X9_year_45 (nI z) (nI nn) a3 n (zSUM (zY1 pl o z) k) (zSUM (zY2 pl o z) k) (nI k) (zs M 19 g) = some (zSUM (zY1 pl o z) nn, zSUM (zY2 pl o z) nn, nI nn, zs M 19 g2) := by
  have hb := hw.1
  intro m
  induction m with
  | zero =>
    intro k n g hk hn
    obtain ⟨n, rfl⟩ : ∃ n', n = n' + 1 := ⟨n - 1, by omega⟩
    refine ⟨g, ?_⟩
    rw [L_X9_year_45, if_pos (by rw [n_le (by omega) (by omega)]; omega), show k = nn by omega]
  | succ m ih =>
    intro k n g hk hn
    obtain ⟨n, rfl⟩ : ∃ n', n = n' + 1 := ⟨n - 1, by omega⟩
    have hin : ∀ i, i < pl 7 0 → zfill (zcb pl o ((z + k) % 1000)) g (pl 7 0) i = zcb pl o ((z + k) % 1000) i := fun i hi => zfill_in _ _ hi
    have e0 := cbM_loop hp hw ho hz (by omega : k < 1000) (nI nn) a3 (zSUM (zY1 pl o z) k) (zSUM (zY2 pl o z) k) g (pl 7 0) 0 100000 (by omega) (by omega)
    rw [zfill_0] at e0
    have e0 : L_X9_year_54 (nI z) (nI nn) a3 (zSUM (zY1 pl o z) k) (zSUM (zY2 pl o z) k) (nI k) 100000 0 (zs M 19 g) = _ := e0
    have e1 : f_X9_isClosed (zs M 19 (zfill (zcb pl o ((z + k) % 1000)) g (pl 7 0))) = some (zY1 pl o z k) := by
      rw [cloM (M := zs M 19 (zfill (zcb pl o ((z + k) % 1000)) g (pl 7 0))) hp hw]
      exact congrArg (fun b => some (zB b)) (zCLO_c hw hin)
    have e2 : f_X9_gaps (zs M 19 (zfill (zcb pl o ((z + k) % 1000)) g (pl 7 0))) = some (zY2 pl o z k) := by
      rw [sumM (M := zs M 19 (zfill (zcb pl o ((z + k) % 1000)) g (pl 7 0))) hp hw]
      exact congrArg some (zSUM_c (fun s hs => zGAP_c hw hin hs))
    rw [L_X9_year_45, if_neg (by rw [n_le (by omega) (by omega)]; omega), pb2 e0, pb1 e1, zY1, zBif, pb1 rfl, pv, pb1 e2, pv, pv, n_1, n_add]
    exact ih (k + 1) n _ (by omega) (by omega)
theorem pb4 {α β γ δ ε : Type} {o : Option (β × γ × δ × ε)} {k : β → γ → δ → ε → Option α} {a : β} {b : γ} {c : δ} {d : ε} (h : o = some (a, b, c, d)) : zb4 o k = k a b c d := by subst h; rfl
theorem q_year {X M : zMm} (h : Inv X M) (a b c : Int32) : ∃ r X2 M2, f_X8_year X a b c = some (r, X2) ∧ f_X9_year M a b c = some (r, M2) ∧ Inv X2 M2 := by
  obtain ⟨pl, t, hw, hn, hpx, hpm, h5, ⟨o, hox, hlen, hfm⟩, h7, h8, h9, h10, h11, h12⟩ := id h
  have hb := hw.1
  have hom : iOrd (M 10) o := ordM (pl := pl) hox hfm
  have e0 : (0 : Int32).toInt = 0 := rfl
  have e1 : (1 : Int32).toInt = 1 := rfl
  have e100 : (100 : Int32).toInt = 100 := rfl
  have e1000 : (1000 : Int32).toInt = 1000 := rfl
  unfold f_X8_year f_X9_year
  rcases ix a (n := 1000) (by omega) with ⟨z, hz, rfl⟩ | hz
  · rw [if_neg (nI_pos (by omega)), if_neg (by rw [n_1000, n_le (by omega) (by omega)]; omega), pb1 (in_y (tL _) (lo := 0) (hi := 999) rfl rfl (by rw [nT (by omega)]; omega) (by rw [nT (by omega)]; omega)), if_neg i10]
    by_cases c1 : 1 ≤ b.toInt ∧ b.toInt ≤ 100
    · rw [if_neg (by rw [ltT]; omega), if_neg (by rw [ltT]; omega), pb1 (in_y (tL _) (lo := 1) (hi := 100) rfl rfl c1.1 c1.2), if_neg i10]
      obtain ⟨nn, hnn⟩ := Int.eq_ofNat_of_zero_le (show 0 ≤ b.toInt by omega)
      have hbn : b = nI nn := eqN hnn
      subst hbn
      obtain ⟨g2, eX⟩ := yeX_loop hpx hw hox hz (by omega : nn ≤ 100) c nn 0 100000 (X 33) (by omega) (by omega)
      obtain ⟨g3, eM⟩ := yeM_loop hpm hw hom hz (by omega : nn ≤ 100) c nn 0 100000 (M 19) (by omega) (by omega)
      rw [zs_self] at eX eM
      have eX : L_X8_year_42 (nI z) (nI nn) c 100000 0 0 (nI z) X = _ := eX
      have eM : L_X9_year_45 (nI z) (nI nn) c 100000 0 0 0 M = _ := eM
      have hI : Inv (zs X 33 g2) (zs M 19 g3) := inv_fr h (uX_zs (fun _ _ => rfl) rfl) (uM_zs (fun _ _ => rfl) rfl)
      rcases two (b := c) with (c2 | c2) | c2
      · rw [if_pos c2, pb4 eX, if_pos c2, pb1 (in_y (tL _) (lo := 0) (hi := 1) rfl rfl (by rw [c2]; decide) (by rw [c2]; decide)), if_neg i10, pb4 eM, if_pos c2]
        exact ⟨_, _, _, rfl, rfl, hI⟩
      · have c0 : ¬ c = 0 := by rw [c2]; decide
        rw [if_neg c0, if_pos c2, pb4 eX, if_neg c0, pb1 (in_y (tL _) (lo := 0) (hi := 1) rfl rfl (by rw [c2]; decide) (by rw [c2]; decide)), if_neg i10, pb4 eM, if_neg c0]
        exact ⟨_, _, _, rfl, rfl, hI⟩
      · have c0 : ¬ c = 0 := fun e => by rw [e] at c2; omega
        have c1 : ¬ c = 1 := fun e => by rw [e] at c2; omega
        rw [if_neg c0, if_neg c1, pb1 (in_n (tL _) (lo := 0) (hi := 1) rfl rfl c2), if_pos rfl]
        exact ⟨_, _, _, rfl, rfl, h⟩
    · rw [pb1 (in_n (tL _) (lo := 1) (hi := 100) rfl rfl (by omega)), if_pos rfl]
      by_cases c2 : b < 1
      · rw [if_pos c2]
        exact ⟨_, _, _, rfl, rfl, h⟩
      · rw [if_neg c2, if_pos (by rw [ltT]; rw [ltT] at c2; omega)]
        exact ⟨_, _, _, rfl, rfl, h⟩
  · have hnz := not_in hz
    rw [pb1 (in_n (tL _) (lo := 0) (hi := 999) rfl rfl (by omega)), if_pos rfl]
    by_cases c2 : a < 0
    · rw [if_pos c2]
      exact ⟨_, _, _, rfl, rfl, h⟩
    · rw [if_neg c2, if_pos (by rw [leT]; rw [ltT] at c2; omega)]
      exact ⟨_, _, _, rfl, rfl, h⟩
