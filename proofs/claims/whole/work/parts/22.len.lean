/-! cut, lengths, gaps -/
def zcut (pl : zN) (i : Nat) (s : Int32) : Int32 := ((nI (pl 2 i) + s) * nI (pl 0 (pl 1 i))) / (100 : Int32)
theorem cutX {P : zMm} {pl : zN} (hp : iPlX P pl) (hw : iWF pl) {i : Nat} (hi : i < pl 7 0) (s : Int32) : f_X5_cutLength P (nI i) s = some (zcut pl i s) := by
  obtain ⟨-, h0, h1, -⟩ := hp
  obtain ⟨⟨b1, b2, -⟩, -, w2, -⟩ := hw
  obtain ⟨e1, e2, -⟩ := h1 i hi
  obtain ⟨w, -⟩ := w2 i hi
  unfold f_X5_cutLength
  rw [pl_k rfl (by omega) (by omega), pl_k rfl (by omega) (by omega), pl_k e1 (by omega) (by omega), e2, h0 _ w]
  rfl
theorem cutM {M : zMm} {pl : zN} (hp : iPlM M pl) (hw : iWF pl) {i : Nat} (hi : i < pl 7 0) (s : Int32) : f_X9_cutOf M (nI i) s = some (zcut pl i s) := by
  obtain ⟨-, h0, h1, -⟩ := hp
  obtain ⟨⟨b1, b2, -⟩, -, w2, -⟩ := hw
  obtain ⟨e1, e2, -⟩ := h1 i hi
  obtain ⟨w, -⟩ := w2 i hi
  unfold f_X9_cutOf
  rw [pl_k (k := 3 * i + 1) (by rw [n_3, n_mul, n_1, n_add]) (by omega) (by omega), pl_k (k := 3 * i) (by rw [n_3, n_mul, n_0, n_add]; rfl) (by omega) (by omega), pl_k e1 (by omega) (by omega), e2, h0 _ w]
  rfl
def zLEN (pl : zN) (o : Nat → Nat) (lg : Nat → Int32) (i : Nat) : Int32 := zcut pl i (iI (zSL i (zpos o i) (pl 10 0))) + lg i
theorem slipNowX {X : zMm} {pl : zN} {o : Nat → Nat} (hp : iPlX (fun j => X (35 + j)) pl) (hw : iWF pl) (ho : iOrd (X 3) o) {i : Nat} (hi : i < pl 7 0) : f_X8_slipNow X (nI i) = some (iI (zSL i (zpos o i) (pl 10 0))) := by
  have hb := hw.1
  have hi7 : i < 7 := by omega
  have e : X 45 0 = nI (pl 10 0) := hp.1.2.2.2.2.1
  unfold f_X8_slipNow
  rw [pb1 (placeX (P := fun j => X (3 + j)) ho hi7), e, pb1 (slipX hi7 (pos_ok ho hi7).1 (by omega))]
theorem slipNowM {M : zMm} {pl : zN} {o : Nat → Nat} (hp : iPlM M pl) (hw : iWF pl) (ho : iOrd (M 10) o) {i : Nat} (hi : i < pl 7 0) : f_X9_slipNow M (nI i) = some (iI (zSL i (zpos o i) (pl 10 0))) := by
  have hb := hw.1
  have hi7 : i < 7 := by omega
  have e : M 3 1 = nI (pl 10 0) := hp.1.2.2.2.2.1
  unfold f_X9_slipNow
  rw [pb1 (placeM ho hi7), e, pb1 (slipM hi7 (pos_ok ho hi7).1 (by omega))]
theorem lenNowX {X : zMm} {pl : zN} {o : Nat → Nat} (hp : iPlX (fun j => X (35 + j)) pl) (hw : iWF pl) (ho : iOrd (X 3) o) {i : Nat} (hi : i < pl 7 0) : f_X8_lengthNow X (nI i) = some (zLEN pl o (X 4) i) := by
  have hb := hw.1
  unfold f_X8_lengthNow
  rw [pb1 (slipNowX hp hw ho hi), pb1 (cutX hp hw hi _), pl_k rfl (by omega) (by omega)]
  rfl
def zfill (f g : Nat → Int32) (n : Nat) : Nat → Int32 := fun i => if i < n then f i else g i
theorem zfill_0 (f g : Nat → Int32) : zfill f g 0 = g := by
  funext i; simp [zfill]
theorem zfill_s (f g : Nat → Int32) (n : Nat) : upd (zfill f g n) n (f n) = zfill f g (n + 1) := by
  funext i
  by_cases h : i = n
  · subst h; rw [up_s]; simp [zfill]
  · rw [up_n _ _ h]
    unfold zfill
    by_cases h2 : i < n
    · rw [if_pos h2, if_pos (by omega)]
    · rw [if_neg h2, if_neg (by omega)]
theorem zfill_in (f g : Nat → Int32) {n i : Nat} (h : i < n) : zfill f g n i = f i := by unfold zfill; rw [if_pos h]
theorem measX_loop {X : zMm} {pl : zN} {o : Nat → Nat} (hp : iPlX (fun j => X (35 + j)) pl) (hw : iWF pl) (ho : iOrd (X 3) o) : ∀ m k n, k + m = pl 7 0 → m < n → L_X8_measureNow_2 n (nI k) (zs X 31 (zfill (zLEN pl o (X 4)) (X 31) k)) = some (nI (pl 7 0), zs X 31 (zfill (zLEN pl o (X 4)) (X 31) (pl 7 0))) := by
  have hb := hw.1
  have e7 : ∀ g, (zs X 31 g) 42 0 = nI (pl 7 0) := fun g => hp.1.2.1
  intro m
  induction m with
  | zero =>
    intro k n hk hn
    obtain ⟨n, rfl⟩ : ∃ n', n = n' + 1 := ⟨n - 1, by omega⟩
    rw [L_X8_measureNow_2, e7, if_pos (by rw [n_le (by omega) (by omega)]; omega), show k = pl 7 0 by omega]
  | succ m ih =>
    intro k n hk hn
    obtain ⟨n, rfl⟩ : ∃ n', n = n' + 1 := ⟨n - 1, by omega⟩
    rw [L_X8_measureNow_2, e7, if_neg (by rw [n_le (by omega) (by omega)]; omega), pb1 (lenNowX (X := zs X 31 (zfill (zLEN pl o (X 4)) (X 31) k)) hp hw ho (by omega : k < pl 7 0)), pw_k rfl (by omega) (by omega), pv, n_1, n_add, zs_s, zs_zs]
    have : (zs X 31 (zfill (zLEN pl o (X 4)) (X 31) k)) 4 = X 4 := rfl
    rw [this, zfill_s]
    exact ih (k + 1) n (by omega) (by omega)
theorem measX {X : zMm} {pl : zN} {o : Nat → Nat} (hp : iPlX (fun j => X (35 + j)) pl) (hw : iWF pl) (ho : iOrd (X 3) o) : f_X8_measureNow X = some (zs X 31 (zfill (zLEN pl o (X 4)) (X 31) (pl 7 0))) := by
  unfold f_X8_measureNow
  have e := measX_loop hp hw ho (pl 7 0) 0 100000 (by omega) (by have := hw.1; omega)
  rw [zfill_0, zs_self] at e
  have e : L_X8_measureNow_2 100000 0 X = _ := e
  rw [pb2 e]
def zLM (M : zMm) (i : Nat) : Int32 := M 10 (7 + i)
theorem measM_loop {M : zMm} {pl : zN} {o : Nat → Nat} (hp : iPlM M pl) (hw : iWF pl) (ho : iOrd (M 10) o) : ∀ m k n, k + m = pl 7 0 → m < n → L_X9_lengths_2 n (nI k) (zs M 19 (zfill (zLEN pl o (zLM M)) (M 19) k)) = some (nI (pl 7 0), zs M 19 (zfill (zLEN pl o (zLM M)) (M 19) (pl 7 0))) := by
  have hb := hw.1
  have e7 : ∀ g, (zs M 19 g) 6 0 = nI (pl 7 0) := fun g => hp.1.2.1
  intro m
  induction m with
  | zero =>
    intro k n hk hn
    obtain ⟨n, rfl⟩ : ∃ n', n = n' + 1 := ⟨n - 1, by omega⟩
    rw [L_X9_lengths_2, e7, if_pos (by rw [n_le (by omega) (by omega)]; omega), show k = pl 7 0 by omega]
  | succ m ih =>
    intro k n hk hn
    obtain ⟨n, rfl⟩ : ∃ n', n = n' + 1 := ⟨n - 1, by omega⟩
    rw [L_X9_lengths_2, e7, if_neg (by rw [n_le (by omega) (by omega)]; omega), pb1 (slipNowM (M := zs M 19 (zfill (zLEN pl o (zLM M)) (M 19) k)) hp hw ho (by omega : k < pl 7 0)), pb1 (cutM (M := zs M 19 (zfill (zLEN pl o (zLM M)) (M 19) k)) hp hw (by omega : k < pl 7 0) _), pl_k (k := 7 + k) (by rw [n_7, n_add]) (by omega) (by omega), pw_k rfl (by omega) (by omega), pv, n_1, n_add, zs_s, zs_zs]
    have : zcut pl k (iI (zSL k (zpos o k) (pl 10 0))) + (zs M 19 (zfill (zLEN pl o (zLM M)) (M 19) k)) 10 (7 + k) = zLEN pl o (zLM M) k := rfl
    rw [this, zfill_s]
    exact ih (k + 1) n (by omega) (by omega)
theorem measM {M : zMm} {pl : zN} {o : Nat → Nat} (hp : iPlM M pl) (hw : iWF pl) (ho : iOrd (M 10) o) : f_X9_lengths M = some (zs M 19 (zfill (zLEN pl o (zLM M)) (M 19) (pl 7 0))) := by
  unfold f_X9_lengths
  have e := measM_loop hp hw ho (pl 7 0) 0 100000 (by omega) (by have := hw.1; omega)
  rw [zfill_0, zs_self] at e
  have e : L_X9_lengths_2 100000 0 M = _ := e
  rw [pb2 e]
def zabs (d : Int32) : Int32 := if d < 0 then -d else d
theorem zabs_e1 (d : Int32) : (if (0 : Int32) ≤ d then d else 0 - d) = zabs d := by
  unfold zabs
  by_cases h : d < 0
  · rw [if_pos h, if_neg (fun h2 => by rw [leT] at h2; rw [ltT] at h; exact absurd h (by omega)), Int32.zero_sub]
  · rw [if_neg h, if_pos (by rw [ltT] at h; rw [leT]; omega)]
theorem zabs_e2 (d : Int32) : (if (0 : Int32) ≤ d then some d else some (-d)) = some (zabs d) := by
  unfold zabs
  by_cases h : d < 0
  · rw [if_pos h, if_neg (fun h2 => by rw [leT] at h2; rw [ltT] at h; exact absurd h (by omega))]
  · rw [if_neg h, if_pos (by rw [ltT] at h; rw [leT]; omega)]
def zGAP (pl : zN) (g : Nat → Int32) (s : Nat) : Int32 := zabs (g (pl 4 s) - g (pl 5 s))
theorem gapX {P R : zMm} {pl : zN} (hp : iPlX P pl) (hw : iWF pl) {s : Nat} (hs : s < pl 8 0) : f_X5_gapOf P R (nI s) = some (zGAP pl (R 0) s) := by
  obtain ⟨-, -, -, h4⟩ := hp
  obtain ⟨⟨-, b2, b3, -⟩, -, -, w3⟩ := hw
  obtain ⟨e1, e2⟩ := h4 s hs
  obtain ⟨w1, w2, -⟩ := w3 s hs
  unfold f_X5_gapOf
  rw [pl_k rfl (by omega) (by omega), pl_k e1 (by omega) (by omega), pl_k rfl (by omega) (by omega), pl_k e2 (by omega) (by omega), pv, zabs_e1]
  rfl
theorem gapM {M : zMm} {pl : zN} (hp : iPlM M pl) (hw : iWF pl) {s : Nat} (hs : s < pl 8 0) : f_X9_gapOf M (nI s) = some (zGAP pl (M 19) s) := by
  obtain ⟨-, -, -, h4⟩ := hp
  obtain ⟨⟨-, b2, b3, -⟩, -, -, w3⟩ := hw
  obtain ⟨e1, e2⟩ := h4 s hs
  obtain ⟨w1, w2, -⟩ := w3 s hs
  unfold f_X9_gapOf
  rw [pl_k (k := 2 * s) (by rw [n_2, n_mul]) (by omega) (by omega), pl_k e1 (by omega) (by omega), pl_k (k := 2 * s + 1) (by rw [n_2, n_mul, n_1, n_add]) (by omega) (by omega), pl_k e2 (by omega) (by omega), pv, zabs_e2]
  rfl
theorem zGAP_c {pl : zN} (hw : iWF pl) {g h : Nat → Int32} (e : ∀ i, i < pl 7 0 → g i = h i) {s : Nat} (hs : s < pl 8 0) : zGAP pl g s = zGAP pl h s := by
  obtain ⟨w1, w2, -⟩ := hw.2.2.2 s hs
  unfold zGAP
  rw [e _ w1, e _ w2]
def zSUM (f : Nat → Int32) : Nat → Int32
  | 0 => 0
  | n + 1 => zSUM f n + f n
theorem zSUM_c {f g : Nat → Int32} : ∀ {n : Nat}, (∀ i, i < n → f i = g i) → zSUM f n = zSUM g n
  | 0, _ => rfl
  | n + 1, h => by rw [zSUM, zSUM, zSUM_c (fun i hi => h i (by omega)), h n (by omega)]
theorem sumX_loop {P R : zMm} {pl : zN} (hp : iPlX P pl) (hw : iWF pl) : ∀ m k n, k + m = pl 8 0 → m < n → L_X5_sumOfGaps_4 P R n (zSUM (zGAP pl (R 0)) k) (nI k) = some (zSUM (zGAP pl (R 0)) (pl 8 0), nI (pl 8 0)) := by
  have hb := hw.1
  have e8 : P 8 0 = nI (pl 8 0) := hp.1.2.2.1
  intro m
  induction m with
  | zero =>
    intro k n hk hn
    obtain ⟨n, rfl⟩ : ∃ n', n = n' + 1 := ⟨n - 1, by omega⟩
    rw [L_X5_sumOfGaps_4, e8, if_pos (by rw [n_le (by omega) (by omega)]; omega), show k = pl 8 0 by omega]
  | succ m ih =>
    intro k n hk hn
    obtain ⟨n, rfl⟩ : ∃ n', n = n' + 1 := ⟨n - 1, by omega⟩
    rw [L_X5_sumOfGaps_4, e8, if_neg (by rw [n_le (by omega) (by omega)]; omega), pb1 (gapX hp hw (by omega : k < pl 8 0)), pv, pv, n_1, n_add]
    exact ih (k + 1) n (by omega) (by omega)
theorem sumX {P R : zMm} {pl : zN} (hp : iPlX P pl) (hw : iWF pl) : f_X5_sumOfGaps P R = some (zSUM (zGAP pl (R 0)) (pl 8 0)) := by
  unfold f_X5_sumOfGaps
  have e : L_X5_sumOfGaps_4 P R 100000 0 0 = _ := sumX_loop hp hw (pl 8 0) 0 100000 (by omega) (by have := hw.1; omega)
  rw [pb2 e]
theorem sumM_loop {M : zMm} {pl : zN} (hp : iPlM M pl) (hw : iWF pl) : ∀ m k n, k + m = pl 8 0 → m < n → L_X9_gaps_4 M n (zSUM (zGAP pl (M 19)) k) (nI k) = some (zSUM (zGAP pl (M 19)) (pl 8 0), nI (pl 8 0)) := by
  have hb := hw.1
  have e8 : M 8 0 = nI (pl 8 0) := hp.1.2.2.1
  intro m
  induction m with
  | zero =>
    intro k n hk hn
    obtain ⟨n, rfl⟩ : ∃ n', n = n' + 1 := ⟨n - 1, by omega⟩
    rw [L_X9_gaps_4, e8, if_pos (by rw [n_le (by omega) (by omega)]; omega), show k = pl 8 0 by omega]
  | succ m ih =>
    intro k n hk hn
    obtain ⟨n, rfl⟩ : ∃ n', n = n' + 1 := ⟨n - 1, by omega⟩
    rw [L_X9_gaps_4, e8, if_neg (by rw [n_le (by omega) (by omega)]; omega), pb1 (gapM hp hw (by omega : k < pl 8 0)), pv, pv, n_1, n_add]
    exact ih (k + 1) n (by omega) (by omega)
theorem sumM {M : zMm} {pl : zN} (hp : iPlM M pl) (hw : iWF pl) : f_X9_gaps M = some (zSUM (zGAP pl (M 19)) (pl 8 0)) := by
  unfold f_X9_gaps
  have e : L_X9_gaps_4 M 100000 0 0 = _ := sumM_loop hp hw (pl 8 0) 0 100000 (by omega) (by have := hw.1; omega)
  rw [pb2 e]
/-- all places from k on, m of them -/
def zAF (p : Nat → Bool) : Nat → Nat → Bool
  | _, 0 => true
  | k, m + 1 => p k && zAF p (k + 1) m
theorem zAF_c {p q : Nat → Bool} : ∀ {m k : Nat}, (∀ i, k ≤ i → i < k + m → p i = q i) → zAF p k m = zAF q k m
  | 0, _, _ => rfl
  | m + 1, k, h => by rw [zAF, zAF, h k (by omega) (by omega), zAF_c (fun i h1 h2 => h i (by omega) (by omega))]
def zB (b : Bool) : Int32 := if b then 1 else 0
def zCL (pl : zN) (g : Nat → Int32) (s : Nat) : Bool := decide (zGAP pl g s ≤ nI (pl 9 0))
def zCLO (pl : zN) (g : Nat → Int32) : Bool := zAF (zCL pl g) 0 (pl 8 0)
theorem zCLO_c {pl : zN} (hw : iWF pl) {g h : Nat → Int32} (e : ∀ i, i < pl 7 0 → g i = h i) : zCLO pl g = zCLO pl h := by
  unfold zCLO
  exact zAF_c (fun i _ h2 => by unfold zCL; rw [zGAP_c hw e (by omega)])
theorem cloX_loop {P R : zMm} {pl : zN} (hp : iPlX P pl) (hw : iWF pl) : ∀ m k n, k + m = pl 8 0 → m < n → L_X5_isClosedBy_2 P R n (nI k) = some (zB (zAF (zCL pl (R 0)) k m)) := by
  have hb := hw.1
  have e8 : P 8 0 = nI (pl 8 0) := hp.1.2.2.1
  have e9 : P 9 0 = nI (pl 9 0) := hp.1.2.2.2.1
  intro m
  induction m with
  | zero =>
    intro k n hk hn
    obtain ⟨n, rfl⟩ : ∃ n', n = n' + 1 := ⟨n - 1, by omega⟩
    rw [L_X5_isClosedBy_2, e8, if_pos (by rw [n_le (by omega) (by omega)]; omega)]
    rfl
  | succ m ih =>
    intro k n hk hn
    obtain ⟨n, rfl⟩ : ∃ n', n = n' + 1 := ⟨n - 1, by omega⟩
    rw [L_X5_isClosedBy_2, e8, if_neg (by rw [n_le (by omega) (by omega)]; omega), pb1 (gapX hp hw (by omega : k < pl 8 0)), e9, zAF]
    by_cases c : zGAP pl (R 0) k ≤ nI (pl 9 0)
    · rw [if_pos c, pv, n_1, n_add, show zCL pl (R 0) k = true by simp [zCL, c], Bool.true_and]
      exact ih (k + 1) n (by omega) (by omega)
    · rw [if_neg c, show zCL pl (R 0) k = false by simp [zCL, c]]
      rfl
theorem cloX {P R : zMm} {pl : zN} (hp : iPlX P pl) (hw : iWF pl) : f_X5_isClosedBy P R = some (zB (zCLO pl (R 0))) :=
  cloX_loop hp hw (pl 8 0) 0 100000 (by omega) (by have := hw.1; omega)
theorem cloM_loop {M : zMm} {pl : zN} (hp : iPlM M pl) (hw : iWF pl) : ∀ m k n (b : Bool), k + m = pl 8 0 → m < n → L_X9_isClosed_4 M n (zB b) (nI k) = some (zB (b && zAF (zCL pl (M 19)) k m), nI (pl 8 0)) := by
  have hb := hw.1
  have e8 : M 8 0 = nI (pl 8 0) := hp.1.2.2.1
  have e9 : M 3 0 = nI (pl 9 0) := hp.1.2.2.2.1
  intro m
  induction m with
  | zero =>
    intro k n b hk hn
    obtain ⟨n, rfl⟩ : ∃ n', n = n' + 1 := ⟨n - 1, by omega⟩
    rw [L_X9_isClosed_4, e8, if_pos (by rw [n_le (by omega) (by omega)]; omega), show k = pl 8 0 by omega, zAF, Bool.and_true]
  | succ m ih =>
    intro k n b hk hn
    obtain ⟨n, rfl⟩ : ∃ n', n = n' + 1 := ⟨n - 1, by omega⟩
    rw [L_X9_isClosed_4, e8, if_neg (by rw [n_le (by omega) (by omega)]; omega), e9, zAF]
    cases b with
    | false =>
      have : (zB false) = 0 := rfl
      rw [this, if_pos rfl, pb1 rfl, pv, n_1, n_add, Bool.false_and]
      have := ih (k + 1) n false (by omega) (by omega)
      rw [Bool.false_and] at this
      exact this
    | true =>
      have : ¬ (zB true) = 0 := by decide
      rw [if_neg this, pb1 (gapM hp hw (by omega : k < pl 8 0)), Bool.true_and]
      by_cases c : zGAP pl (M 19) k ≤ nI (pl 9 0)
      · rw [if_neg (by rw [ltT]; rw [leT] at c; omega), pb1 rfl, pv, n_1, n_add, show zCL pl (M 19) k = true by simp [zCL, c]]
        exact ih (k + 1) n true (by omega) (by omega)
      · rw [if_pos (by rw [ltT]; rw [leT] at c; omega), pb1 rfl, pv, n_1, n_add, show zCL pl (M 19) k = false by simp [zCL, c]]
        exact ih (k + 1) n false (by omega) (by omega)
theorem zo_B {α : Type} (b : Bool) (k : Option α) : zo (zB b) k = k := by cases b; exact po0 k; exact po1 k
theorem cloM {M : zMm} {pl : zN} (hp : iPlM M pl) (hw : iWF pl) : f_X9_isClosed M = some (zB (zCLO pl (M 19))) := by
  unfold f_X9_isClosed
  have e : L_X9_isClosed_4 M 100000 1 0 = _ := cloM_loop hp hw (pl 8 0) 0 100000 true (by omega) (by have := hw.1; omega)
  rw [pb2 e, Bool.true_and, zo_B]
  rfl
