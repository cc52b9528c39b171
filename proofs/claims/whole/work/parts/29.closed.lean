/-! closed: shortest lengths go over the seams -/
def zrl (pl : zN) (v : Nat → Int) (s : Nat) : Nat → Int := fun i => if i = pl 4 s ∨ i = pl 5 s then (if v (pl 5 s) < v (pl 4 s) then v (pl 5 s) else v (pl 4 s)) else v i
def zRP (pl : zN) : Nat → Nat → (Nat → Int) → Nat → Int
  | 0, _, v => v
  | m + 1, k, v => zRP pl m (k + 1) (zrl pl v k)
def zRR (pl : zN) : Nat → (Nat → Int) → Nat → Int
  | 0, v => v
  | r + 1, v => zRR pl r (zRP pl (pl 8 0) 0 v)
theorem zRR_s (pl : zN) : ∀ r v, zRR pl (r + 1) v = zRP pl (pl 8 0) 0 (zRR pl r v)
  | 0, v => rfl
  | r + 1, v => by rw [zRR, zRR_s pl r, ← zRR]
theorem zRR_add (pl : zN) : ∀ a b v, zRR pl (a + b) v = zRR pl b (zRR pl a v)
  | a, 0, v => rfl
  | a, b + 1, v => by rw [show a + (b + 1) = (a + b) + 1 by omega, zRR_s, zRR_add pl a b, ← zRR_s]
theorem zrl_le (pl : zN) (v : Nat → Int) (s i : Nat) : zrl pl v s i ≤ v i := by
  unfold zrl
  by_cases c : i = pl 4 s ∨ i = pl 5 s
  · rw [if_pos c]
    rcases c with rfl | rfl <;> split <;> omega
  · rw [if_neg c]; omega
theorem zRP_le (pl : zN) : ∀ m k v i, zRP pl m k v i ≤ v i
  | 0, _, v, i => Int.le_refl _
  | m + 1, k, v, i => Int.le_trans (zRP_le pl m (k + 1) (zrl pl v k) i) (zrl_le pl v k i)
theorem zrl_lo {pl : zN} {v : Nat → Int} {c : Int} {n : Nat} (h : ∀ i, i < n → c ≤ v i) {s : Nat} (h4 : pl 4 s < n) (h5 : pl 5 s < n) : ∀ i, i < n → c ≤ zrl pl v s i := by
  intro i hi
  have a := h _ h4
  have b := h _ h5
  unfold zrl
  by_cases q : i = pl 4 s ∨ i = pl 5 s
  · rw [if_pos q]; split <;> omega
  · rw [if_neg q]; exact h i hi
/-- at the threshold t the ends of each seam are on one side -/
def zEv (pl : zN) (v : Nat → Int) (t : Int) : Prop := ∀ s, s < pl 8 0 → (v (pl 4 s) ≤ t ↔ v (pl 5 s) ≤ t)
theorem zrl_ev {pl : zN} {v : Nat → Int} {t : Int} {s : Nat} (h : v (pl 4 s) ≤ t ↔ v (pl 5 s) ≤ t) (i : Nat) : zrl pl v s i ≤ t ↔ v i ≤ t := by
  unfold zrl
  by_cases q : i = pl 4 s ∨ i = pl 5 s
  · rw [if_pos q]
    rcases q with rfl | rfl
    · split <;> omega
    · split <;> omega
  · rw [if_neg q]
theorem zRP_ev {pl : zN} {t : Int} : ∀ m k v, k + m ≤ pl 8 0 → zEv pl v t → ∀ i, (zRP pl m k v i ≤ t ↔ v i ≤ t)
  | 0, _, v, _, _, i => Iff.rfl
  | m + 1, k, v, hk, h, i => by
    have h1 := zrl_ev (h k (by omega))
    have h2 : zEv pl (zrl pl v k) t := fun s hs => by rw [h1, h1]; exact h s hs
    rw [zRP, zRP_ev m (k + 1) (zrl pl v k) (by omega) h2 i, h1]
theorem zRP_hit {pl : zN} {t : Int} : ∀ m k v s, k ≤ s → s < k + m → (v (pl 4 s) ≤ t ∨ v (pl 5 s) ≤ t) → zRP pl m k v (pl 4 s) ≤ t ∧ zRP pl m k v (pl 5 s) ≤ t
  | 0, k, v, s, h1, h2, _ => by omega
  | m + 1, k, v, s, h1, h2, h => by
    rw [zRP]
    by_cases c : s = k
    · subst c
      have a := zRP_le pl m (s + 1) (zrl pl v s) (pl 4 s)
      have b := zRP_le pl m (s + 1) (zrl pl v s) (pl 5 s)
      have e4 : zrl pl v s (pl 4 s) ≤ t := by
        unfold zrl
        rw [if_pos (Or.inl rfl)]
        split <;> omega
      have e5 : zrl pl v s (pl 5 s) ≤ t := by
        unfold zrl
        rw [if_pos (Or.inr rfl)]
        split <;> omega
      omega
    · refine zRP_hit m (k + 1) (zrl pl v k) s (by omega) (by omega) ?_
      have a := zrl_le pl v k (pl 4 s)
      have b := zrl_le pl v k (pl 5 s)
      omega
theorem zcnt_mono {p q : Nat → Bool} : ∀ n, (∀ i, i < n → p i = true → q i = true) → zcnt p n ≤ zcnt q n
  | 0, _ => Nat.le_refl _
  | n + 1, h => by
    have := zcnt_mono n (fun i hi => h i (by omega))
    have hn := h n (by omega)
    rw [zcnt, zcnt]
    cases hp : p n with
    | false =>
      rw [if_neg (by decide)]
      split <;> omega
    | true =>
      rw [hn hp]
      omega
theorem zcnt_strict {p q : Nat → Bool} : ∀ n, (∀ i, i < n → p i = true → q i = true) → ∀ j, j < n → p j = false → q j = true → zcnt p n + 1 ≤ zcnt q n
  | 0, _, j, hj, _, _ => by omega
  | n + 1, h, j, hj, h1, h2 => by
    rw [zcnt, zcnt]
    by_cases c : j = n
    · subst c
      have := zcnt_mono j (fun i hi => h i (by omega))
      rw [h1, h2, if_neg (by decide), if_pos rfl]
      omega
    · have := zcnt_strict n (fun i hi => h i (by omega)) j (by omega) h1 h2
      have hn := h n (by omega)
      cases hp : p n with
      | false =>
        rw [if_neg (by decide)]
        split <;> omega
      | true =>
        rw [hn hp]
        omega
theorem zcnt_all {p : Nat → Bool} : ∀ n, zcnt p n = n → ∀ i, i < n → p i = true
  | 0, _, i, hi => by omega
  | n + 1, h, i, hi => by
    have hle := zcnt_le p n
    rw [zcnt] at h
    cases hp : p n with
    | false => rw [hp, if_neg (by decide)] at h; omega
    | true =>
      rw [hp, if_pos rfl] at h
      by_cases c : i = n
      · rw [c]; exact hp
      · exact zcnt_all n (by omega) i (by omega)
theorem zcnt_none {p : Nat → Bool} : ∀ n, zcnt p n = 0 → ∀ i, i < n → p i = false
  | 0, _, i, hi => by omega
  | n + 1, h, i, hi => by
    rw [zcnt] at h
    cases hp : p n with
    | true => rw [hp, if_pos rfl] at h; omega
    | false =>
      rw [hp, if_neg (by decide)] at h
      by_cases c : i = n
      · rw [c]; exact hp
      · exact zcnt_none n (by omega) i (by omega)
theorem zEv_round {pl : zN} {v : Nat → Int} {t : Int} (h : zEv pl v t) : zEv pl (zRP pl (pl 8 0) 0 v) t := fun s hs => by
  have := zRP_ev (pl := pl) (t := t) (pl 8 0) 0 v (by omega) h
  rw [this, this]
  exact h s hs
theorem zEv_rounds {pl : zN} {t : Int} : ∀ r v, zEv pl v t → zEv pl (zRR pl r v) t
  | 0, v, h => h
  | r + 1, v, h => by rw [zRR]; exact zEv_rounds r _ (zEv_round h)
theorem zEv_main {pl : zN} (hw : iWF pl) {n : Nat} (hn : n = pl 7 0) {t : Int} (v : Nat → Int) : ∀ r, zEv pl (zRR pl r v) t ∨ r + zcnt (fun i => decide (v i ≤ t)) n ≤ zcnt (fun i => decide (zRR pl r v i ≤ t)) n
  | 0 => Or.inr (by rw [Nat.zero_add]; exact Nat.le_refl _)
  | r + 1 => by
    rcases zEv_main hw hn (t := t) v r with h | h
    · exact Or.inl (by rw [zRR_s]; exact zEv_round h)
    · by_cases c : ∃ j, j < n ∧ zRP pl (pl 8 0) 0 (zRR pl r v) j ≤ t ∧ ¬ zRR pl r v j ≤ t
      · obtain ⟨j, hj, h1, h2⟩ := c
        have := zcnt_strict (p := fun i => decide (zRR pl r v i ≤ t)) (q := fun i => decide (zRR pl (r + 1) v i ≤ t)) n (fun i hi hp => by
          have hp : zRR pl r v i ≤ t := by simpa using hp
          have := zRP_le pl (pl 8 0) 0 (zRR pl r v) i
          rw [zRR_s]
          simp
          omega) j hj (by simpa using h2) (by rw [zRR_s]; simpa using h1)
        exact Or.inr (by omega)
      · refine Or.inl ?_
        have hsame : ∀ j, j < n → zRP pl (pl 8 0) 0 (zRR pl r v) j ≤ t → zRR pl r v j ≤ t := fun j hj h1 => Classical.byContradiction fun h2 => c ⟨j, hj, h1, h2⟩
        have hev : zEv pl (zRR pl r v) t := fun s hs => by
          obtain ⟨w1, w2, -⟩ := hw.2.2.2 s hs
          constructor
          · intro q
            exact hsame _ (by omega) (zRP_hit (pl 8 0) 0 _ s (by omega) (by omega) (Or.inl q)).2
          · intro q
            exact hsame _ (by omega) (zRP_hit (pl 8 0) 0 _ s (by omega) (by omega) (Or.inr q)).1
        rw [zRR_s]
        exact zEv_round hev
theorem zEv_end {pl : zN} (hw : iWF pl) (hn : 1 ≤ pl 7 0) (v : Nat → Int) (t : Int) : zEv pl (zRR pl (pl 7 0 - 1) v) t := by
  by_cases c : zcnt (fun i => decide (v i ≤ t)) (pl 7 0) = 0
  · refine zEv_rounds _ _ (fun s hs => ?_)
    obtain ⟨w1, w2, -⟩ := hw.2.2.2 s hs
    have a := zcnt_none _ c _ w1
    have b := zcnt_none _ c _ w2
    simp at a b
    omega
  · rcases zEv_main hw rfl (t := t) v (pl 7 0 - 1) with h | h
    · exact h
    · have hle := zcnt_le (fun i => decide (zRR pl (pl 7 0 - 1) v i ≤ t)) (pl 7 0)
      have hall := zcnt_all (p := fun i => decide (zRR pl (pl 7 0 - 1) v i ≤ t)) (pl 7 0) (by omega)
      intro s hs
      obtain ⟨w1, w2, -⟩ := hw.2.2.2 s hs
      have a := hall _ w1
      have b := hall _ w2
      simp at a b
      omega
theorem zRR_eq {pl : zN} (hw : iWF pl) (hn : 1 ≤ pl 7 0) (v : Nat → Int) : ∀ s, s < pl 8 0 → zRR pl (pl 7 0 - 1) v (pl 4 s) = zRR pl (pl 7 0 - 1) v (pl 5 s) := fun s hs => by
  have a := zEv_end hw hn v (zRR pl (pl 7 0 - 1) v (pl 4 s)) s hs
  have b := zEv_end hw hn v (zRR pl (pl 7 0 - 1) v (pl 5 s)) s hs
  omega
theorem zrl_fix {pl : zN} {v : Nat → Int} {s : Nat} (h : v (pl 4 s) = v (pl 5 s)) : zrl pl v s = v := by
  funext i
  unfold zrl
  by_cases q : i = pl 4 s ∨ i = pl 5 s
  · rw [if_pos q]
    rcases q with rfl | rfl <;> split <;> omega
  · rw [if_neg q]
theorem zRP_fix {pl : zN} {v : Nat → Int} (h : ∀ s, s < pl 8 0 → v (pl 4 s) = v (pl 5 s)) : ∀ m k, k + m ≤ pl 8 0 → zRP pl m k v = v
  | 0, _, _ => rfl
  | m + 1, k, hk => by rw [zRP, zrl_fix (h k (by omega)), zRP_fix h m (k + 1) (by omega)]
theorem zRR_fix {pl : zN} {v : Nat → Int} (h : ∀ s, s < pl 8 0 → v (pl 4 s) = v (pl 5 s)) : ∀ r, zRR pl r v = v
  | 0 => rfl
  | r + 1 => by rw [zRR, zRP_fix h _ _ (by omega), zRR_fix h r]
theorem zRR_7 {pl : zN} (hw : iWF pl) (hn : 1 ≤ pl 7 0) (v : Nat → Int) : zRR pl 7 v = zRR pl (pl 7 0 - 1) v := by
  have hb := hw.1
  rw [show 7 = (pl 7 0 - 1) + (7 - (pl 7 0 - 1)) by omega, zRR_add, zRR_fix (zRR_eq hw hn v)]
  rw [show pl 7 0 - 1 + (7 - (pl 7 0 - 1)) = 7 by omega]
/-! the machine's rounds -/
def zrel (pl : zN) (f : Nat → Int32) (v : Nat → Int) : Prop := ∀ i, i < pl 7 0 → f i = iI (v i) ∧ 1 ≤ v i ∧ v i ≤ 299
theorem zrel_rl {pl : zN} (hw : iWF pl) {f : Nat → Int32} {v : Nat → Int} (h : zrel pl f v) {s : Nat} (hs : s < pl 8 0) : zrel pl (upd (upd f (pl 4 s) (iI (if v (pl 5 s) < v (pl 4 s) then v (pl 5 s) else v (pl 4 s)))) (pl 5 s) (iI (if v (pl 5 s) < v (pl 4 s) then v (pl 5 s) else v (pl 4 s)))) (zrl pl v s) := by
  obtain ⟨w1, w2, -⟩ := hw.2.2.2 s hs
  have a := h _ w1
  have b := h _ w2
  intro i hi
  unfold zrl
  by_cases c5 : i = pl 5 s
  · rw [c5, up_s, if_pos (Or.inr rfl)]
    refine ⟨rfl, ?_⟩
    split <;> omega
  · rw [up_n _ _ c5]
    by_cases c4 : i = pl 4 s
    · rw [c4, up_s, if_pos (Or.inl rfl)]
      refine ⟨rfl, ?_⟩
      split <;> omega
    · rw [up_n _ _ c4, if_neg (by omega)]
      exact h i hi
theorem minI {a b : Int} (ha : 1 ≤ a ∧ a ≤ 299) (hb : 1 ≤ b ∧ b ≤ 299) : (if iI b < iI a then iI b else iI a) = iI (if b < a then b else a) := by
  by_cases c : b < a
  · rw [if_pos (by rw [ltT, iI_t (by omega) (by omega), iI_t (by omega) (by omega)]; exact c), if_pos c]
  · rw [if_neg (by rw [ltT, iI_t (by omega) (by omega), iI_t (by omega) (by omega)]; exact c), if_neg c]
theorem minM {a b : Int} (ha : 1 ≤ a ∧ a ≤ 299) (hb : 1 ≤ b ∧ b ≤ 299) : (if iI b ≤ iI a then some (iI b) else some (iI a)) = some (iI (if b < a then b else a)) := by
  by_cases c : b < a
  · rw [if_pos (by rw [leT, iI_t (by omega) (by omega), iI_t (by omega) (by omega)]; omega), if_pos c]
  · rw [if_neg c]
    by_cases c2 : b = a
    · rw [if_pos (by rw [leT, iI_t (by omega) (by omega), iI_t (by omega) (by omega)]; omega), c2]
    · rw [if_neg (by rw [leT, iI_t (by omega) (by omega), iI_t (by omega) (by omega)]; omega)]
theorem lsX_loop {X : zMm} {pl : zN} (hp : iPlX (fun j => X (35 + j)) pl) (hw : iWF pl) (l1 : Int32) : ∀ m k n f v, k + m = pl 8 0 → m < n → zrel pl f v → ∃ f2, L_X8_levelSeams_46 l1 n (nI k) (zs X 34 f) = some (nI (pl 8 0), zs X 34 f2) ∧ zrel pl f2 (zRP pl m k v) := by
  have hb := hw.1
  have e8 : ∀ g, (zs X 34 g) 43 0 = nI (pl 8 0) := fun g => hp.1.2.2.1
  intro m
  induction m with
  | zero =>
    intro k n f v hk hn hr
    obtain ⟨n, rfl⟩ : ∃ n', n = n' + 1 := ⟨n - 1, by omega⟩
    refine ⟨f, ?_, hr⟩
    rw [L_X8_levelSeams_46, e8, if_pos (by rw [n_le (by omega) (by omega)]; omega), show k = pl 8 0 by omega]
  | succ m ih =>
    intro k n f v hk hn hr
    obtain ⟨n, rfl⟩ : ∃ n', n = n' + 1 := ⟨n - 1, by omega⟩
    have hk8 : k < pl 8 0 := by omega
    obtain ⟨w1, w2, -⟩ := hw.2.2.2 k hk8
    have x4 : ∀ g, (zs X 34 g) 39 k = nI (pl 4 k) := fun g => (hp.2.2.2 k hk8).1
    have x5 : ∀ g, (zs X 34 g) 40 k = nI (pl 5 k) := fun g => (hp.2.2.2 k hk8).2
    have a := hr _ w1
    have b := hr _ w2
    rw [L_X8_levelSeams_46, e8, if_neg (by rw [n_le (by omega) (by omega)]; omega), pl_k rfl (by omega) (by omega), x4, pl_k rfl (by omega) (by omega), zs_s, a.1, pl_k rfl (by omega) (by omega), x5, pl_k rfl (by omega) (by omega), b.1, pv, minI a.2 b.2, pl_k rfl (by omega) (by omega), x4, pw_k rfl (by omega) (by omega), zs_s, zs_zs, pl_k rfl (by omega) (by omega), x5, pw_k rfl (by omega) (by omega), zs_s, zs_zs, pv, n_1, n_add]
    exact ih (k + 1) n _ _ (by omega) (by omega) (zrel_rl hw hr hk8)
theorem lrX_loop {X : zMm} {pl : zN} (hp : iPlX (fun j => X (35 + j)) pl) (hw : iWF pl) : ∀ m k n f v, k + m = pl 7 0 → m < n → zrel pl f v → ∃ f2, L_X8_levelSeams_33 n (nI k) (zs X 34 f) = some (nI (pl 7 0), zs X 34 f2) ∧ zrel pl f2 (zRR pl m v) := by
  have hb := hw.1
  have e7 : ∀ g, (zs X 34 g) 42 0 = nI (pl 7 0) := fun g => hp.1.2.1
  intro m
  induction m with
  | zero =>
    intro k n f v hk hn hr
    obtain ⟨n, rfl⟩ : ∃ n', n = n' + 1 := ⟨n - 1, by omega⟩
    refine ⟨f, ?_, hr⟩
    rw [L_X8_levelSeams_33, e7, if_pos (by rw [n_le (by omega) (by omega)]; omega), show k = pl 7 0 by omega]
  | succ m ih =>
    intro k n f v hk hn hr
    obtain ⟨n, rfl⟩ : ∃ n', n = n' + 1 := ⟨n - 1, by omega⟩
    obtain ⟨f2, e2, hr2⟩ := lsX_loop hp hw (nI k) (pl 8 0) 0 100000 f v (by omega) (by omega) hr
    have e2 : L_X8_levelSeams_46 (nI k) 100000 0 (zs X 34 f) = _ := e2
    rw [L_X8_levelSeams_33, e7, if_neg (by rw [n_le (by omega) (by omega)]; omega), pb2 e2, pv, n_1, n_add]
    exact ih (k + 1) n _ _ (by omega) (by omega) hr2
theorem lcX_loop {X : zMm} {pl : zN} (hp : X 42 0 = nI (pl 7 0)) (hw : iWF pl) : ∀ m k n, k + m = pl 7 0 → m < n → L_X8_levelSeams_2 n (nI k) (zs X 34 (zfill (X 31) (X 34) k)) = some (nI (pl 7 0), zs X 34 (zfill (X 31) (X 34) (pl 7 0))) := by
  have hb := hw.1
  have e7 : ∀ g, (zs X 34 g) 42 0 = nI (pl 7 0) := fun g => hp
  intro m
  induction m with
  | zero =>
    intro k n hk hn
    obtain ⟨n, rfl⟩ : ∃ n', n = n' + 1 := ⟨n - 1, by omega⟩
    rw [L_X8_levelSeams_2, e7, if_pos (by rw [n_le (by omega) (by omega)]; omega), show k = pl 7 0 by omega]
  | succ m ih =>
    intro k n hk hn
    obtain ⟨n, rfl⟩ : ∃ n', n = n' + 1 := ⟨n - 1, by omega⟩
    have e : ∀ g, (zs X 34 g) 31 = X 31 := fun g => rfl
    rw [L_X8_levelSeams_2, e7, if_neg (by rw [n_le (by omega) (by omega)]; omega), pl_k rfl (by omega) (by omega), e, pw_k rfl (by omega) (by omega), zs_s, zs_zs, zfill_s, pv, n_1, n_add]
    exact ih (k + 1) n (by omega) (by omega)
theorem levX {X : zMm} {pl : zN} (hp : iPlX (fun j => X (35 + j)) pl) (hw : iWF pl) (hn : 1 ≤ pl 7 0) {v : Nat → Int} (hr : zrel pl (X 31) v) : ∃ f2, f_X8_levelSeams X = some (zs X 34 f2) ∧ zrel pl f2 (zRR pl (pl 7 0 - 1) v) := by
  have hb := hw.1
  have e1 := lcX_loop (X := X) hp.1.2.1 hw (pl 7 0) 0 100000 (by omega) (by omega)
  rw [zfill_0, zs_self] at e1
  have e1 : L_X8_levelSeams_2 100000 0 X = _ := e1
  obtain ⟨f2, e2, hr2⟩ := lrX_loop hp hw (pl 7 0 - 1) 1 100000 (zfill (X 31) (X 34) (pl 7 0)) v (by omega) (by omega) (fun i hi => by rw [zfill_in _ _ hi]; exact hr i hi)
  have e2 : L_X8_levelSeams_33 100000 1 (zs X 34 (zfill (X 31) (X 34) (pl 7 0))) = _ := e2
  refine ⟨f2, ?_, hr2⟩
  unfold f_X8_levelSeams
  rw [pb2 e1, pb2 e2]
theorem lsM_loop {M : zMm} {pl : zN} (hp : iPlM M pl) (hw : iWF pl) (l1 l2 : Int32) : ∀ m k n f v, k + m = pl 8 0 → m < n → zrel pl f v → ∃ f2, L_X9_closed_66 l1 l2 n (nI k) (zs M 21 f) = some (nI (pl 8 0), zs M 21 f2) ∧ zrel pl f2 (zRP pl m k v) := by
  have hb := hw.1
  have e8 : ∀ g, (zs M 21 g) 8 0 = nI (pl 8 0) := fun g => hp.1.2.2.1
  intro m
  induction m with
  | zero =>
    intro k n f v hk hn hr
    obtain ⟨n, rfl⟩ : ∃ n', n = n' + 1 := ⟨n - 1, by omega⟩
    refine ⟨f, ?_, hr⟩
    rw [L_X9_closed_66, e8, if_pos (by rw [n_le (by omega) (by omega)]; omega), show k = pl 8 0 by omega]
  | succ m ih =>
    intro k n f v hk hn hr
    obtain ⟨n, rfl⟩ : ∃ n', n = n' + 1 := ⟨n - 1, by omega⟩
    have hk8 : k < pl 8 0 := by omega
    obtain ⟨w1, w2, -⟩ := hw.2.2.2 k hk8
    have x4 : ∀ g, (zs M 21 g) 9 (2 * k) = nI (pl 4 k) := fun g => (hp.2.2.2 k hk8).1
    have x5 : ∀ g, (zs M 21 g) 9 (2 * k + 1) = nI (pl 5 k) := fun g => (hp.2.2.2 k hk8).2
    have a := hr _ w1
    have b := hr _ w2
    rw [L_X9_closed_66, e8, if_neg (by rw [n_le (by omega) (by omega)]; omega), pl_k (k := 2 * k) (by rw [n_2, n_mul]) (by omega) (by omega), x4, pl_k (k := 2 * k + 1) (by rw [n_2, n_mul, n_1, n_add]) (by omega) (by omega), x5, pl_k rfl (by omega) (by omega), zs_s, a.1, pl_k rfl (by omega) (by omega), b.1, pl_k rfl (by omega) (by omega), b.1, pl_k rfl (by omega) (by omega), a.1, minM a.2 b.2, pb1 rfl, pw_k rfl (by omega) (by omega), zs_s, zs_zs, pw_k rfl (by omega) (by omega), zs_s, zs_zs, pv, n_1, n_add]
    exact ih (k + 1) n _ _ (by omega) (by omega) (zrel_rl hw hr hk8)
theorem lrM_loop {M : zMm} {pl : zN} (hp : iPlM M pl) (hw : iWF pl) (l1 : Int32) : ∀ m k n f v, k + m = 7 → m < n → zrel pl f v → ∃ f2, L_X9_closed_58 l1 n (nI k) (zs M 21 f) = some (nI 7, zs M 21 f2) ∧ zrel pl f2 (zRR pl m v) := by
  have hb := hw.1
  intro m
  induction m with
  | zero =>
    intro k n f v hk hn hr
    obtain ⟨n, rfl⟩ : ∃ n', n = n' + 1 := ⟨n - 1, by omega⟩
    refine ⟨f, ?_, hr⟩
    rw [L_X9_closed_58, if_pos (by rw [n_7, n_le (by omega) (by omega)]; omega), show k = 7 by omega]
  | succ m ih =>
    intro k n f v hk hn hr
    obtain ⟨n, rfl⟩ : ∃ n', n = n' + 1 := ⟨n - 1, by omega⟩
    obtain ⟨f2, e2, hr2⟩ := lsM_loop hp hw l1 (nI k) (pl 8 0) 0 100000 f v (by omega) (by omega) hr
    have e2 : L_X9_closed_66 l1 (nI k) 100000 0 (zs M 21 f) = _ := e2
    rw [L_X9_closed_58, if_neg (by rw [n_7, n_le (by omega) (by omega)]; omega), pb2 e2, pv, n_1, n_add]
    exact ih (k + 1) n _ _ (by omega) (by omega) hr2
theorem lcM_loop {M : zMm} {pl : zN} (hp : M 6 0 = nI (pl 7 0)) (hw : iWF pl) (l1 : Int32) : ∀ m k n, k + m = pl 7 0 → m < n → L_X9_closed_28 l1 n (nI k) (zs M 21 (zfill (M 19) (M 21) k)) = some (nI (pl 7 0), zs M 21 (zfill (M 19) (M 21) (pl 7 0))) := by
  have hb := hw.1
  have e7 : ∀ g, (zs M 21 g) 6 0 = nI (pl 7 0) := fun g => hp
  intro m
  induction m with
  | zero =>
    intro k n hk hn
    obtain ⟨n, rfl⟩ : ∃ n', n = n' + 1 := ⟨n - 1, by omega⟩
    rw [L_X9_closed_28, e7, if_pos (by rw [n_le (by omega) (by omega)]; omega), show k = pl 7 0 by omega]
  | succ m ih =>
    intro k n hk hn
    obtain ⟨n, rfl⟩ : ∃ n', n = n' + 1 := ⟨n - 1, by omega⟩
    have e : ∀ g, (zs M 21 g) 19 = M 19 := fun g => rfl
    rw [L_X9_closed_28, e7, if_neg (by rw [n_le (by omega) (by omega)]; omega), pl_k rfl (by omega) (by omega), e, pw_k rfl (by omega) (by omega), zs_s, zs_zs, zfill_s, pv, n_1, n_add]
    exact ih (k + 1) n (by omega) (by omega)
theorem csX_loop {X : zMm} {pl : zN} (hp : X 42 0 = nI (pl 7 0)) (hw : iWF pl) (l1 : Int32) : ∀ m k n, k + m = pl 7 0 → m < n → L_X8_closed_49 X l1 n (zSUM (fun i => X 31 i - X 34 i) k) (nI k) = some (zSUM (fun i => X 31 i - X 34 i) (pl 7 0), nI (pl 7 0)) := by
  have hb := hw.1
  intro m
  induction m with
  | zero =>
    intro k n hk hn
    obtain ⟨n, rfl⟩ : ∃ n', n = n' + 1 := ⟨n - 1, by omega⟩
    rw [L_X8_closed_49, hp, if_pos (by rw [n_le (by omega) (by omega)]; omega), show k = pl 7 0 by omega]
  | succ m ih =>
    intro k n hk hn
    obtain ⟨n, rfl⟩ : ∃ n', n = n' + 1 := ⟨n - 1, by omega⟩
    rw [L_X8_closed_49, hp, if_neg (by rw [n_le (by omega) (by omega)]; omega), pl_k rfl (by omega) (by omega), pl_k rfl (by omega) (by omega), pv, pv, n_1, n_add]
    exact ih (k + 1) n (by omega) (by omega)
theorem csM_loop {M : zMm} {pl : zN} (hp : M 6 0 = nI (pl 7 0)) (hw : iWF pl) (l1 : Int32) : ∀ m k n, k + m = pl 7 0 → m < n → L_X9_closed_168 M l1 n (zSUM (fun i => M 19 i - M 21 i) k) (nI k) = some (zSUM (fun i => M 19 i - M 21 i) (pl 7 0), nI (pl 7 0)) := by
  have hb := hw.1
  intro m
  induction m with
  | zero =>
    intro k n hk hn
    obtain ⟨n, rfl⟩ : ∃ n', n = n' + 1 := ⟨n - 1, by omega⟩
    rw [L_X9_closed_168, hp, if_pos (by rw [n_le (by omega) (by omega)]; omega), show k = pl 7 0 by omega]
  | succ m ih =>
    intro k n hk hn
    obtain ⟨n, rfl⟩ : ∃ n', n = n' + 1 := ⟨n - 1, by omega⟩
    rw [L_X9_closed_168, hp, if_neg (by rw [n_le (by omega) (by omega)]; omega), pl_k rfl (by omega) (by omega), pl_k rfl (by omega) (by omega), pv, pv, n_1, n_add]
    exact ih (k + 1) n (by omega) (by omega)
theorem q_closed {X M : zMm} (h : Inv X M) (a : Int32) : ∃ r X2 M2, f_X8_closed X a = some (r, X2) ∧ f_X9_closed M a = some (r, M2) ∧ Inv X2 M2 := by
  obtain ⟨pl, t, hw, hn, hpx, hpm, h5, ⟨o, hox, hlen, hfm⟩, h7, h8, h9, h10, h11, h12⟩ := id h
  have hb := hw.1
  have hom : iOrd (M 10) o := ordM (pl := pl) hox hfm
  have eX1 := measX hpx hw hox
  have eM1 := measM hpm hw hom
  have rX : zrel pl ((zs X 31 (zfill (zLEN pl o (X 4)) (X 31) (pl 7 0))) 31) (fun i => (zLEN pl o (X 4) i).toInt) := fun i hi => ⟨by rw [iI_of]; exact zfill_in _ _ hi, hlen i hi⟩
  have rM : zrel pl ((zs M 19 (zfill (zLEN pl o (zLM M)) (M 19) (pl 7 0))) 19) (fun i => (zLEN pl o (X 4) i).toInt) := fun i hi => ⟨by rw [iI_of]; exact (zfill_in _ _ hi).trans (ft_len hw (fun k hk => (hfm k hk).2) i hi), hlen i hi⟩
  obtain ⟨fX, eX2, rX2⟩ := levX (X := zs X 31 (zfill (zLEN pl o (X 4)) (X 31) (pl 7 0))) hpx hw hn rX
  have c1 := lcM_loop (M := zs M 19 (zfill (zLEN pl o (zLM M)) (M 19) (pl 7 0))) hpm.1.2.1 hw a (pl 7 0) 0 100000 (by omega) (by omega)
  rw [zfill_0, zs_self] at c1
  have c1 : L_X9_closed_28 a 100000 0 (zs M 19 (zfill (zLEN pl o (zLM M)) (M 19) (pl 7 0))) = _ := c1
  obtain ⟨fM, eM2, rM2⟩ := lrM_loop (M := zs M 19 (zfill (zLEN pl o (zLM M)) (M 19) (pl 7 0))) hpm hw a 7 0 100000 (zfill ((zs M 19 (zfill (zLEN pl o (zLM M)) (M 19) (pl 7 0))) 19) ((zs M 19 (zfill (zLEN pl o (zLM M)) (M 19) (pl 7 0))) 21) (pl 7 0)) (fun i => (zLEN pl o (X 4) i).toInt) (by omega) (by omega) (fun i hi => by rw [zfill_in _ _ hi]; exact rM i hi)
  have eM2 : L_X9_closed_58 a 100000 0 (zs (zs M 19 (zfill (zLEN pl o (zLM M)) (M 19) (pl 7 0))) 21 (zfill ((zs M 19 (zfill (zLEN pl o (zLM M)) (M 19) (pl 7 0))) 19) ((zs M 19 (zfill (zLEN pl o (zLM M)) (M 19) (pl 7 0))) 21) (pl 7 0))) = _ := eM2
  rw [zRR_7 hw hn] at rM2
  generalize hXX : zs X 31 (zfill (zLEN pl o (X 4)) (X 31) (pl 7 0)) = XX at *
  generalize hMM : zs M 19 (zfill (zLEN pl o (zLM M)) (M 19) (pl 7 0)) = MM at *
  have uXX : ∀ j, uX j = true → XX j = X j := by rw [← hXX]; exact uX_zs (fun _ _ => rfl) rfl
  have uMM : ∀ j, uM j = true → MM j = M j := by rw [← hMM]; exact uM_zs (fun _ _ => rfl) rfl
  have hI : Inv (zs XX 34 fX) (zs MM 21 fM) := inv_fr h (uX_zs uXX rfl) (uM_zs uMM rfl)
  have x7 : (zs XX 34 fX) 42 0 = nI (pl 7 0) := by show XX 42 0 = _; rw [uXX 42 rfl]; exact hpx.1.2.1
  have m7 : (zs MM 21 fM) 6 0 = nI (pl 7 0) := by show MM 6 0 = _; rw [uMM 6 rfl]; exact hpm.1.2.1
  have sX : L_X8_closed_49 (zs XX 34 fX) a 100000 0 0 = _ := csX_loop x7 hw a (pl 7 0) 0 100000 (by omega) (by omega)
  have sM : L_X9_closed_168 (zs MM 21 fM) a 100000 0 0 = _ := csM_loop m7 hw a (pl 7 0) 0 100000 (by omega) (by omega)
  have hd : ∀ i, i < pl 7 0 → MM 19 i - fM i = XX 31 i - fX i := fun i hi => by rw [(rX i hi).1, (rM i hi).1, (rX2 i hi).1, (rM2 i hi).1]
  unfold f_X8_closed f_X9_closed
  rw [hpm.1.2.1]
  by_cases c : a = -1
  · rw [if_pos c, pb1 eX1, pb1 eX2, if_pos c, pb2 sX, pb1 (in_y (tL a) (lo := -1) rfl (tL1 (by omega)) (by rw [c, m1]; omega) (by rw [c, m1]; omega)), if_neg i10, pb1 eM1, pb2 c1, pb2 eM2, pb2 sM, if_neg (by rw [c]; decide)]
    exact ⟨_, _, _, rfl, sw (zSUM_c (fun i hi => hd i hi)), hI⟩
  · rw [if_neg c]
    rcases ix a (n := pl 7 0) (by omega) with ⟨i, hi, rfl⟩ | hi
    · rw [pb1 (hasPartX hpx hw hi), if_neg i10, pb1 eX1, pb1 eX2, if_neg c, pl_k rfl (by omega) (by omega), pl_k rfl (by omega) (by omega), pb1 (in_y (tL _) (lo := -1) rfl (tL1 (by omega)) (by rw [nT (by omega)]; omega) (by rw [nT (by omega)]; omega)), if_neg i10, pb1 eM1, pb2 c1, pb2 eM2, pb2 sM, if_pos (nI_pos' (by omega)), pl_k rfl (by omega) (by omega), pl_k rfl (by omega) (by omega)]
      exact ⟨_, _, _, rfl, sw (hd i hi), hI⟩
    · have hni := not_in hi
      have : ¬ a.toInt = -1 := fun e => c (eqT.mpr e)
      rw [pb1 (hasPartX_no hpx hw hi), if_pos rfl, pb1 (in_n (tL a) (lo := -1) rfl (tL1 (by omega)) (by omega)), if_pos rfl]
      exact ⟨_, _, _, rfl, rfl, h⟩
