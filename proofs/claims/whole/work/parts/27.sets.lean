/-! sets, as bits -/
theorem s_l : ∀ n, n < 32 → ((nI n &&& 31).toBitVec.smod 32).toNat = n := by decide +kernel
def zbit (s i : Nat) : Bool := decide (s / 2 ^ i % 2 = 1)
theorem bitI {s i : Nat} (hs : s < 2147483648) (hi : i < 32) : (((nI s >>> (nI i &&& 31)) &&& 1) = 1) ↔ zbit s i = true := by
  rw [pk_shrN (by omega) _ i (s_l i hi)]
  have h1 : s / 2 ^ i ≤ s := Nat.div_le_self _ _
  rw [pk_andN (by omega) 1 rfl, n_1, n_eq (by have := Nat.mod_lt (s / 2 ^ i) (show 0 < 2 ^ 1 by decide); omega) (by omega)]
  unfold zbit
  rw [decide_eq_true_iff]
theorem shl1 {k : Nat} (hk : k ≤ 7) : (1 : Int32) <<< (nI k &&& 31) = nI (2 ^ k) := by
  have h := pk_shlN (n := 1) (nI k &&& 31) k (s_l k (by omega)) (by
    have : 2 ^ k ≤ 2 ^ 7 := Nat.pow_le_pow_right (by omega) hk
    omega)
  rw [Nat.one_mul] at h
  exact h
theorem pow7 {k : Nat} (hk : k ≤ 7) : 2 ^ k ≤ 128 := Nat.pow_le_pow_right (n := 2) (by omega) hk
def zSS (g : Nat → Int32) (s : Nat) : Nat → Int32 := zSUM (fun i => if zbit s i then g i else 0)
theorem ssX_loop {P R : zMm} {pl : zN} (hp : P 7 0 = nI (pl 7 0)) (hw : iWF pl) {s : Nat} (hs : s < 2147483648) : ∀ m k n, k + m = pl 7 0 → m < n → L_X5_sumOfSet_5 P R (nI s) n (zSS (R 0) s k) (nI k) = some (zSS (R 0) s (pl 7 0), nI (pl 7 0)) := by
  have hb := hw.1
  intro m
  induction m with
  | zero =>
    intro k n hk hn
    obtain ⟨n, rfl⟩ : ∃ n', n = n' + 1 := ⟨n - 1, by omega⟩
    rw [L_X5_sumOfSet_5, hp, if_pos (by rw [n_le (by omega) (by omega)]; omega), show k = pl 7 0 by omega]
  | succ m ih =>
    intro k n hk hn
    obtain ⟨n, rfl⟩ : ∃ n', n = n' + 1 := ⟨n - 1, by omega⟩
    rw [L_X5_sumOfSet_5, hp, if_neg (by rw [n_le (by omega) (by omega)]; omega)]
    have e : (if ((nI s >>> (nI k &&& 31)) &&& 1) = 1 then zl 7 (R 0) (nI k) (fun v6 => some v6) else some (0 : Int32)) = some (if zbit s k then R 0 k else 0) := by
      by_cases c : zbit s k = true
      · rw [if_pos ((bitI hs (by omega)).mpr c), if_pos c, pl_k rfl (by omega) (by omega)]
      · rw [if_neg (fun q => c ((bitI hs (by omega)).mp q)), if_neg c]
    rw [pb1 e, pv, pv, n_1, n_add]
    exact ih (k + 1) n (by omega) (by omega)
theorem ssX {P R : zMm} {pl : zN} (hp : P 7 0 = nI (pl 7 0)) (hw : iWF pl) {s : Nat} (hs : s < 2147483648) : f_X5_sumOfSet P R (nI s) = some (zSS (R 0) s (pl 7 0)) := by
  unfold f_X5_sumOfSet
  have e : L_X5_sumOfSet_5 P R (nI s) 100000 0 0 = _ := ssX_loop hp hw hs (pl 7 0) 0 100000 (by omega) (by have := hw.1; omega)
  rw [pb2 e]
/-! bribes -/
def zPD (pl : zN) (s : Nat) : Nat → Nat
  | 0 => 0
  | n + 1 => zPD pl s n + (if zbit s n then pl 3 n else 0)
theorem zPD_b {pl : zN} (hw : iWF pl) (s : Nat) : ∀ n, n ≤ pl 7 0 → zPD pl s n ≤ 99 * n
  | 0, _ => by simp [zPD]
  | n + 1, h => by
    have := zPD_b hw s n (by omega)
    have := (hw.2.2.1 n (by omega)).2.2.2
    rw [zPD]
    split <;> omega
theorem zPD_e {pl : zN} {g : Nat → Int32} (hg : ∀ i, i < pl 7 0 → g i = nI (pl 3 i)) (s : Nat) : ∀ n, n ≤ pl 7 0 → zSS g s n = nI (zPD pl s n)
  | 0, _ => rfl
  | n + 1, h => by
    have ih := zPD_e hg s n (by omega)
    unfold zSS at ih ⊢
    rw [zSUM, ih, zPD, hg n (by omega)]
    by_cases c : zbit s n = true
    · rw [if_pos c, if_pos c, n_add]
    · rw [if_neg c, if_neg c, n_0, n_add]
def zBC (pl : zN) (o : Nat → Nat) (s i : Nat) : Int32 := if zbit s i then zcut pl i 0 else zcb pl o (pl 10 0) i
def zbx (pl : zN) : Option Nat → Int32 × Int32
  | none => (-4, -4)
  | some s => (nI s, nI (zPD pl s (pl 7 0)))
def zbm (pl : zN) : Option Nat → Int32 × Int32
  | none => (-1, -4)
  | some s => (nI (zPD pl s (pl 7 0)), nI s)
def zbl (pl : zN) (st : Option Nat) (s : Nat) : Bool := match st with
  | none => true
  | some b => decide (zPD pl s (pl 7 0) < zPD pl b (pl 7 0))
def zbs (pl : zN) (o : Nat → Nat) (st : Option Nat) (s : Nat) : Option Nat := if zbl pl st s && zCLO pl (zBC pl o s) then some s else st
def zBR (pl : zN) (o : Nat → Nat) : Nat → Nat → Option Nat → Option Nat
  | 0, _, st => st
  | m + 1, s, st => zBR pl o m (s + 1) (zbs pl o st s)
theorem br1_loop {X : zMm} {pl : zN} {o : Nat → Nat} (hp : iPlX (fun j => X (35 + j)) pl) (hw : iWF pl) (ho : iOrd (X 3) o) (a : Int32) : ∀ m k n, k + m = pl 7 0 → m < n → L_X8_bribes_13 a n (nI k) (zs (zs X 32 (zfill (fun i => zcut pl i 0) (X 32) k)) 33 (zfill (zcb pl o (pl 10 0)) (X 33) k)) = some (nI (pl 7 0), zs (zs X 32 (zfill (fun i => zcut pl i 0) (X 32) (pl 7 0))) 33 (zfill (zcb pl o (pl 10 0)) (X 33) (pl 7 0))) := by
  have hb := hw.1
  intro m
  induction m with
  | zero =>
    intro k n hk hn
    obtain ⟨n, rfl⟩ : ∃ n', n = n' + 1 := ⟨n - 1, by omega⟩
    rw [L_X8_bribes_13, if_pos (by show X 42 0 ≤ nI k; rw [show X 42 0 = nI (pl 7 0) from hp.1.2.1, n_le (by omega) (by omega)]; omega), show k = pl 7 0 by omega]
  | succ m ih =>
    intro k n hk hn
    obtain ⟨n, rfl⟩ : ∃ n', n = n' + 1 := ⟨n - 1, by omega⟩
    rw [L_X8_bribes_13, if_neg (by show ¬ X 42 0 ≤ nI k; rw [show X 42 0 = nI (pl 7 0) from hp.1.2.1, n_le (by omega) (by omega)]; omega)]
    rw [pb1 (cutX (P := fun j => (zs (zs X 32 (zfill (fun i => zcut pl i 0) (X 32) k)) 33 (zfill (zcb pl o (pl 10 0)) (X 33) k)) (35 + j)) hp hw (by omega : k < pl 7 0) _), pw_k rfl (by omega) (by omega)]
    have eA : zs (zs (zs X 32 (zfill (fun i => zcut pl i 0) (X 32) k)) 33 (zfill (zcb pl o (pl 10 0)) (X 33) k)) 32 (upd ((zs (zs X 32 (zfill (fun i => zcut pl i 0) (X 32) k)) 33 (zfill (zcb pl o (pl 10 0)) (X 33) k)) 32) k (zcut pl k 0)) = zs (zs X 32 (zfill (fun i => zcut pl i 0) (X 32) (k + 1))) 33 (zfill (zcb pl o (pl 10 0)) (X 33) k) := by
      have e : (zs (zs X 32 (zfill (fun i => zcut pl i 0) (X 32) k)) 33 (zfill (zcb pl o (pl 10 0)) (X 33) k)) 32 = zfill (fun i => zcut pl i 0) (X 32) k := rfl
      rw [e, zfill_s (fun i => zcut pl i 0), zs_comm _ _ _ (by decide : (33 : Nat) ≠ 32), zs_zs]
    rw [eA]
    rw [pb1 (slipNowX (X := zs (zs X 32 (zfill (fun i => zcut pl i 0) (X 32) (k + 1))) 33 (zfill (zcb pl o (pl 10 0)) (X 33) k)) hp hw ho (by omega : k < pl 7 0)), pb1 (cutX (P := fun j => (zs (zs X 32 (zfill (fun i => zcut pl i 0) (X 32) (k + 1))) 33 (zfill (zcb pl o (pl 10 0)) (X 33) k)) (35 + j)) hp hw (by omega : k < pl 7 0) _), pw_k rfl (by omega) (by omega), pv, n_1, n_add, zs_s, zs_zs]
    have : zcut pl k (iI (zSL k (zpos o k) (pl 10 0))) = zcb pl o (pl 10 0) k := rfl
    rw [this, zfill_s]
    exact ih (k + 1) n (by omega) (by omega)
theorem icb_loop {X : zMm} {pl : zN} {o : Nat → Nat} (hp : X 42 0 = nI (pl 7 0)) (hw : iWF pl) (h32 : ∀ i, i < pl 7 0 → X 32 i = zcut pl i 0) (h33 : ∀ i, i < pl 7 0 → X 33 i = zcb pl o (pl 10 0) i) {s : Nat} (hs : s < 2147483648) (g : Nat → Int32) : ∀ m k n, k + m = pl 7 0 → m < n → L_X8_isClosedByBribing_2 (nI s) n (nI k) (zs X 31 (zfill (zBC pl o s) g k)) = some (nI (pl 7 0), zs X 31 (zfill (zBC pl o s) g (pl 7 0))) := by
  have hb := hw.1
  have e7 : ∀ g, (zs X 31 g) 42 0 = nI (pl 7 0) := fun g => hp
  intro m
  induction m with
  | zero =>
    intro k n hk hn
    obtain ⟨n, rfl⟩ : ∃ n', n = n' + 1 := ⟨n - 1, by omega⟩
    rw [L_X8_isClosedByBribing_2, e7, if_pos (by rw [n_le (by omega) (by omega)]; omega), show k = pl 7 0 by omega]
  | succ m ih =>
    intro k n hk hn
    obtain ⟨n, rfl⟩ : ∃ n', n = n' + 1 := ⟨n - 1, by omega⟩
    have e : (if ((nI s >>> (nI k &&& 31)) &&& 1) = 1 then zl 7 ((zs X 31 (zfill (zBC pl o s) g k)) 32) (nI k) (fun v7 => some v7) else zl 7 ((zs X 31 (zfill (zBC pl o s) g k)) 33) (nI k) (fun v6 => some v6)) = some (zBC pl o s k) := by
      unfold zBC
      by_cases c : zbit s k = true
      · rw [if_pos ((bitI hs (by omega)).mpr c), if_pos c, pl_k rfl (by omega) (by omega)]
        exact congrArg some (h32 k (by omega))
      · rw [if_neg (fun q => c ((bitI hs (by omega)).mp q)), if_neg c, pl_k rfl (by omega) (by omega)]
        exact congrArg some (h33 k (by omega))
    rw [L_X8_isClosedByBribing_2, e7, if_neg (by rw [n_le (by omega) (by omega)]; omega), pb1 e, pw_k rfl (by omega) (by omega), pv, n_1, n_add, zs_s, zs_zs, zfill_s]
    exact ih (k + 1) n (by omega) (by omega)
theorem icb {X : zMm} {pl : zN} {o : Nat → Nat} (hp : iPlX (fun j => X (35 + j)) pl) (hw : iWF pl) (h32 : ∀ i, i < pl 7 0 → X 32 i = zcut pl i 0) (h33 : ∀ i, i < pl 7 0 → X 33 i = zcb pl o (pl 10 0) i) {s : Nat} (hs : s < 2147483648) (g : Nat → Int32) : f_X8_isClosedByBribing (zs X 31 g) (nI s) = some (zB (zCLO pl (zBC pl o s)), zs X 31 (zfill (zBC pl o s) g (pl 7 0))) := by
  unfold f_X8_isClosedByBribing
  have e := icb_loop (o := o) (X := X) hp.1.2.1 hw h32 h33 hs g (pl 7 0) 0 100000 (by omega) (by have := hw.1; omega)
  rw [zfill_0] at e
  have e : L_X8_isClosedByBribing_2 (nI s) 100000 0 (zs X 31 g) = _ := e
  have e1 : f_X5_isClosedBy (fun j => zs X 31 (zfill (zBC pl o s) g (pl 7 0)) (35 + j)) (fun j => zs X 31 (zfill (zBC pl o s) g (pl 7 0)) (31 + j)) = some (zB (zCLO pl (zBC pl o s))) := by
    rw [cloX (P := fun j => zs X 31 (zfill (zBC pl o s) g (pl 7 0)) (35 + j)) hp hw]
    exact congrArg (fun b => some (zB b)) (zCLO_c hw (fun i hi => zfill_in _ _ hi))
  rw [pb2 e, pb1 e1, zo_B]
theorem zbx4 {pl : zN} (st : Option Nat) (hs : ∀ s, st = some s → s < 128) : ((zbx pl st).1 = -4) ↔ st = none := by
  cases st with
  | none => exact ⟨fun _ => rfl, fun _ => rfl⟩
  | some s =>
    refine ⟨fun h => ?_, fun h => by cases h⟩
    have h2 := hs s rfl
    have : (nI s).toInt = -4 := by rw [show nI s = -4 from h]; rfl
    rw [nT (by omega)] at this
    omega
theorem brX_loop {X : zMm} {pl : zN} {o : Nat → Nat} (hp : iPlX (fun j => X (35 + j)) pl) (hw : iWF pl) (h32 : ∀ i, i < pl 7 0 → X 32 i = zcut pl i 0) (h33 : ∀ i, i < pl 7 0 → X 33 i = zcb pl o (pl 10 0) i) (a : Int32) : ∀ m s n (g : Nat → Int32) (st : Option Nat), s + m = 2 ^ pl 7 0 → m < n → (∀ b, st = some b → b < s) → ∃ g2, L_X8_bribes_73 a n (zbx pl st).1 (zbx pl st).2 (nI s) (zs X 31 g) = some ((zbx pl (zBR pl o m s st)).1, (zbx pl (zBR pl o m s st)).2, nI (2 ^ pl 7 0), zs X 31 g2) := by
  have hb := hw.1
  have hpw := pow7 (k := pl 7 0) (by omega)
  have e7 : ∀ g, (zs X 31 g) 42 0 = nI (pl 7 0) := fun g => hp.1.2.1
  intro m
  induction m with
  | zero =>
    intro s n g st hk hn hst
    obtain ⟨n, rfl⟩ : ∃ n', n = n' + 1 := ⟨n - 1, by omega⟩
    refine ⟨g, ?_⟩
    rw [L_X8_bribes_73, e7, shl1 (by omega), if_pos (by rw [n_le (by omega) (by omega)]; omega), show s = 2 ^ pl 7 0 by omega]
    rfl
  | succ m ih =>
    intro s n g st hk hn hst
    obtain ⟨n, rfl⟩ : ∃ n', n = n' + 1 := ⟨n - 1, by omega⟩
    have hpd : ∀ b, zPD pl b (pl 7 0) ≤ 693 := fun b => by have := zPD_b hw b (pl 7 0) (Nat.le_refl _); omega
    have eS : f_X5_sumOfSet (fun j => zs X 31 g (35 + j)) (fun j => zs X 31 g (38 + j)) (nI s) = some (nI (zPD pl s (pl 7 0))) := by
      rw [ssX (P := fun j => zs X 31 g (35 + j)) hp.1.2.1 hw (by omega)]
      exact congrArg some (zPD_e (fun i hi => (hp.2.2.1 i hi).2.2) s _ (Nat.le_refl _))
    have eI := icb hp hw h32 h33 (show s < 2147483648 by omega) g
    rw [L_X8_bribes_73, e7, shl1 (by omega), if_neg (by rw [n_le (by omega) (by omega)]; omega), pb1 eS, zBR]
    have hst2 : ∀ b, zbs pl o st s = some b → b < s + 1 := by
      intro b hb2
      unfold zbs at hb2
      split at hb2
      · cases hb2; omega
      · have := hst b hb2; omega
    have key : ∃ g3, (if (zbx pl st).1 = (-4) then zb2 (f_X8_isClosedByBribing (zs X 31 g) (nI s)) (fun (r24 : Int32) (M_25 : zMm) => if r24 = 0 then some (M_25, (zbx pl st).1, (zbx pl st).2) else some (M_25, nI s, nI (zPD pl s (pl 7 0)))) else if (zbx pl st).2 ≤ nI (zPD pl s (pl 7 0)) then some (zs X 31 g, (zbx pl st).1, (zbx pl st).2) else zb2 (f_X8_isClosedByBribing (zs X 31 g) (nI s)) (fun (r29 : Int32) (M_30 : zMm) => if r29 = 0 then some (M_30, (zbx pl st).1, (zbx pl st).2) else some (M_30, nI s, nI (zPD pl s (pl 7 0))))) = some (zs X 31 g3, (zbx pl (zbs pl o st s)).1, (zbx pl (zbs pl o st s)).2) := by
      have tail : ∀ (b : Bool), zbl pl st s = true → zCLO pl (zBC pl o s) = b → ∃ g3, zb2 (f_X8_isClosedByBribing (zs X 31 g) (nI s)) (fun (r24 : Int32) (M_25 : zMm) => if r24 = 0 then some (M_25, (zbx pl st).1, (zbx pl st).2) else some (M_25, nI s, nI (zPD pl s (pl 7 0)))) = some (zs X 31 g3, (zbx pl (zbs pl o st s)).1, (zbx pl (zbs pl o st s)).2) := by
        intro b hl hc
        refine ⟨zfill (zBC pl o s) g (pl 7 0), ?_⟩
        rw [pb2 eI]
        unfold zbs
        rw [hl, hc]
        cases b with
        | false => rfl
        | true => rfl
      cases st with
      | none =>
        rw [if_pos (show (zbx pl none).1 = -4 from rfl)]
        exact tail _ rfl rfl
      | some b =>
        have hb3 := hst b rfl
        rw [if_neg (fun q => by have := (zbx4 (pl := pl) (some b) (fun u hu => by cases hu; omega)).mp q; cases this)]
        by_cases c : zPD pl s (pl 7 0) < zPD pl b (pl 7 0)
        · rw [if_neg (by show ¬ nI (zPD pl b (pl 7 0)) ≤ nI (zPD pl s (pl 7 0)); rw [n_le (by have := hpd b; omega) (by have := hpd s; omega)]; omega)]
          exact tail _ (by unfold zbl; simp [c]) rfl
        · rw [if_pos (by show nI (zPD pl b (pl 7 0)) ≤ nI (zPD pl s (pl 7 0)); rw [n_le (by have := hpd b; omega) (by have := hpd s; omega)]; omega)]
          refine ⟨g, ?_⟩
          have : zbs pl o (some b) s = some b := by unfold zbs zbl; simp [c]
          rw [this]
    obtain ⟨g3, ek⟩ := key
    rw [pb3 ek, pv, n_1, n_add]
    exact ih (s + 1) n g3 _ (by omega) (by omega) hst2
theorem bri_loop {M : zMm} {pl : zN} {o : Nat → Nat} (hp : iPlM M pl) (hw : iWF pl) (ho : iOrd (M 10) o) {s : Nat} (hs : s < 2147483648) (a l2 l3 : Int32) (g : Nat → Int32) : ∀ m k n, k + m = pl 7 0 → m < n → L_X9_bribes_39 a l2 l3 (nI s) n (nI (zPD pl s k)) (nI k) (zs M 19 (zfill (zBC pl o s) g k)) = some (nI (zPD pl s (pl 7 0)), nI (pl 7 0), zs M 19 (zfill (zBC pl o s) g (pl 7 0))) := by
  have hb := hw.1
  have e7 : ∀ g, (zs M 19 g) 6 0 = nI (pl 7 0) := fun g => hp.1.2.1
  intro m
  induction m with
  | zero =>
    intro k n hk hn
    obtain ⟨n, rfl⟩ : ∃ n', n = n' + 1 := ⟨n - 1, by omega⟩
    rw [L_X9_bribes_39, e7, if_pos (by rw [n_le (by omega) (by omega)]; omega), show k = pl 7 0 by omega]
  | succ m ih =>
    intro k n hk hn
    obtain ⟨n, rfl⟩ : ∃ n', n = n' + 1 := ⟨n - 1, by omega⟩
    rw [L_X9_bribes_39, e7, if_neg (by rw [n_le (by omega) (by omega)]; omega)]
    have ih := ih (k + 1) n (by omega) (by omega)
    rw [zPD, ← zfill_s] at ih
    have e3 : M 7 (3 * k + 2) = nI (pl 3 k) := (hp.2.2.1 k (by omega)).2.2
    by_cases c : zbit s k = true
    · rw [if_pos ((bitI hs (by omega)).mpr c), pb1 rfl, if_neg i10, pl_k (k := 3 * k + 2) (by rw [n_3, n_mul, n_2, n_add]) (by omega) (by omega)]
      have e3' : (zs M 19 (zfill (zBC pl o s) g k)) 7 (3 * k + 2) = nI (pl 3 k) := e3
      rw [e3', pb1 rfl, pv, if_neg i10, pb1 rfl, pb1 (cutM (M := zs M 19 (zfill (zBC pl o s) g k)) hp hw (by omega : k < pl 7 0) _), pw_k rfl (by omega) (by omega), pv, n_1, n_add, n_add, zs_s, zs_zs]
      rw [if_pos c] at ih
      have : zBC pl o s k = zcut pl k 0 := by unfold zBC; rw [if_pos c]
      rw [this] at ih
      exact ih
    · rw [if_neg (fun q => c ((bitI hs (by omega)).mp q)), pb1 rfl, if_pos rfl, pb1 rfl, pv, if_pos rfl, pb1 (slipNowM (M := zs M 19 (zfill (zBC pl o s) g k)) hp hw ho (by omega : k < pl 7 0)), pb1 rfl, pb1 (cutM (M := zs M 19 (zfill (zBC pl o s) g k)) hp hw (by omega : k < pl 7 0) _), pw_k rfl (by omega) (by omega), pv, n_1, n_0, n_add, n_add, zs_s, zs_zs]
      rw [if_neg c] at ih
      have : zBC pl o s k = zcut pl k (iI (zSL k (zpos o k) (pl 10 0))) := by unfold zBC zcb; rw [if_neg c]
      rw [this] at ih
      exact ih
theorem brM_loop {M : zMm} {pl : zN} {o : Nat → Nat} (hp : iPlM M pl) (hw : iWF pl) (ho : iOrd (M 10) o) (a : Int32) : ∀ m s n (g : Nat → Int32) (st : Option Nat), s + m = 2 ^ pl 7 0 → m < n → (∀ b, st = some b → b < s) → ∃ g2, L_X9_bribes_20 a n (zbm pl st).1 (zbm pl st).2 (nI s) (zs M 19 g) = some ((zbm pl (zBR pl o m s st)).1, (zbm pl (zBR pl o m s st)).2, nI (2 ^ pl 7 0), zs M 19 g2) := by
  have hb := hw.1
  have hpw := pow7 (k := pl 7 0) (by omega)
  have e7 : ∀ g, (zs M 19 g) 6 0 = nI (pl 7 0) := fun g => hp.1.2.1
  intro m
  induction m with
  | zero =>
    intro s n g st hk hn hst
    obtain ⟨n, rfl⟩ : ∃ n', n = n' + 1 := ⟨n - 1, by omega⟩
    refine ⟨g, ?_⟩
    rw [L_X9_bribes_20, e7, shl1 (by omega), if_pos (by rw [n_le (by omega) (by omega)]; omega), show s = 2 ^ pl 7 0 by omega]
    rfl
  | succ m ih =>
    intro s n g st hk hn hst
    obtain ⟨n, rfl⟩ : ∃ n', n = n' + 1 := ⟨n - 1, by omega⟩
    have hpd : ∀ b, zPD pl b (pl 7 0) ≤ 693 := fun b => by have := zPD_b hw b (pl 7 0) (Nat.le_refl _); omega
    have e0 := bri_loop hp hw ho (show s < 2147483648 by omega) a (zbm pl st).1 (zbm pl st).2 g (pl 7 0) 0 100000 (by omega) (by omega)
    rw [zfill_0] at e0
    have e0 : L_X9_bribes_39 a (zbm pl st).1 (zbm pl st).2 (nI s) 100000 0 0 (zs M 19 g) = _ := e0
    have e1 : f_X9_isClosed (zs M 19 (zfill (zBC pl o s) g (pl 7 0))) = some (zB (zCLO pl (zBC pl o s))) := by
      rw [cloM (M := zs M 19 (zfill (zBC pl o s) g (pl 7 0))) hp hw]
      exact congrArg (fun b => some (zB b)) (zCLO_c hw (fun i hi => zfill_in _ _ hi))
    rw [L_X9_bribes_20, e7, shl1 (by omega), if_neg (by rw [n_le (by omega) (by omega)]; omega), pb3 e0, pb1 e1, zBR]
    have hst2 : ∀ b, zbs pl o st s = some b → b < s + 1 := by
      intro b hb2
      unfold zbs at hb2
      split at hb2
      · cases hb2; omega
      · have := hst b hb2; omega
    have key : (if zB (zCLO pl (zBC pl o s)) = 0 then some ((zbm pl st).1, (zbm pl st).2) else if (zbm pl st).1 < 0 then some (nI (zPD pl s (pl 7 0)), nI s) else if (zbm pl st).1 ≤ nI (zPD pl s (pl 7 0)) then some ((zbm pl st).1, (zbm pl st).2) else some (nI (zPD pl s (pl 7 0)), nI s)) = some ((zbm pl (zbs pl o st s)).1, (zbm pl (zbs pl o st s)).2) := by
      unfold zbs
      cases hc : zCLO pl (zBC pl o s) with
      | false =>
        rw [if_pos (show zB false = 0 from rfl), Bool.and_false]
        rfl
      | true =>
        rw [if_neg (by decide), Bool.and_true]
        cases st with
        | none =>
          rw [if_pos (show (zbm pl none).1 < 0 from (by decide : (-1 : Int32) < 0))]
          rfl
        | some b =>
          rw [if_neg (by show ¬ nI (zPD pl b (pl 7 0)) < 0; exact nI_pos (by have := hpd b; omega))]
          by_cases c : zPD pl s (pl 7 0) < zPD pl b (pl 7 0)
          · rw [if_neg (by show ¬ nI (zPD pl b (pl 7 0)) ≤ nI (zPD pl s (pl 7 0)); rw [n_le (by have := hpd b; omega) (by have := hpd s; omega)]; omega)]
            have : zbl pl (some b) s = true := by unfold zbl; simp [c]
            rw [this]
            rfl
          · rw [if_pos (by show nI (zPD pl b (pl 7 0)) ≤ nI (zPD pl s (pl 7 0)); rw [n_le (by have := hpd b; omega) (by have := hpd s; omega)]; omega)]
            have : zbl pl (some b) s = false := by unfold zbl; simp [c]
            rw [this]
            rfl
    rw [pb2 key, pv, n_1, n_add]
    exact ih (s + 1) n _ _ (by omega) (by omega) hst2
theorem zBR_b {pl : zN} {o : Nat → Nat} : ∀ m s st, (∀ b, st = some b → b < s) → ∀ b, zBR pl o m s st = some b → b < s + m
  | 0, s, st, h, b, hb => h b hb
  | m + 1, s, st, h, b, hb => by
    have := zBR_b m (s + 1) (zbs pl o st s) (fun b hb2 => by
      unfold zbs at hb2
      split at hb2
      · cases hb2; omega
      · have := h b hb2; omega) b hb
    omega
theorem q_bribes {X M : zMm} (h : Inv X M) (a : Int32) : ∃ r X2 M2, f_X8_bribes X a = some (r, X2) ∧ f_X9_bribes M a = some (r, M2) ∧ Inv X2 M2 := by
  obtain ⟨pl, t, hw, hn, hpx, hpm, h5, ⟨o, hox, hlen, hfm⟩, h7, h8, h9, h10, h11, h12⟩ := id h
  have hb := hw.1
  have hom : iOrd (M 10) o := ordM (pl := pl) hox hfm
  have e1 := br1_loop hpx hw hox a (pl 7 0) 0 100000 (by omega) (by omega)
  rw [zfill_0, zfill_0, zs_self, zs_self] at e1
  have e1 : L_X8_bribes_13 a 100000 0 X = _ := e1
  obtain ⟨g2, eX⟩ := brX_loop (X := zs (zs X 32 (zfill (fun i => zcut pl i 0) (X 32) (pl 7 0))) 33 (zfill (zcb pl o (pl 10 0)) (X 33) (pl 7 0))) (o := o) hpx hw (fun i hi => zfill_in (fun i => zcut pl i 0) (X 32) hi) (fun i hi => zfill_in (zcb pl o (pl 10 0)) (X 33) hi) a (2 ^ pl 7 0) 0 100000 (X 31) none (by omega) (by have := pow7 (k := pl 7 0) (by omega); omega) (fun b hb => by cases hb)
  obtain ⟨g3, eM⟩ := brM_loop hpm hw hom a (2 ^ pl 7 0) 0 100000 (M 19) none (by omega) (by have := pow7 (k := pl 7 0) (by omega); omega) (fun b hb => by cases hb)
  have hself : zs (zs (zs X 32 (zfill (fun i => zcut pl i 0) (X 32) (pl 7 0))) 33 (zfill (zcb pl o (pl 10 0)) (X 33) (pl 7 0))) 31 (X 31) = zs (zs X 32 (zfill (fun i => zcut pl i 0) (X 32) (pl 7 0))) 33 (zfill (zcb pl o (pl 10 0)) (X 33) (pl 7 0)) := zs_self (zs (zs X 32 (zfill (fun i => zcut pl i 0) (X 32) (pl 7 0))) 33 (zfill (zcb pl o (pl 10 0)) (X 33) (pl 7 0))) 31
  rw [hself] at eX
  rw [zs_self] at eM
  have eX : L_X8_bribes_73 a 100000 (-4) (-4) 0 (zs (zs X 32 (zfill (fun i => zcut pl i 0) (X 32) (pl 7 0))) 33 (zfill (zcb pl o (pl 10 0)) (X 33) (pl 7 0))) = _ := eX
  have eM : L_X9_bribes_20 a 100000 (-1) (-4) 0 M = _ := eM
  have hI : Inv (zs (zs (zs X 32 (zfill (fun i => zcut pl i 0) (X 32) (pl 7 0))) 33 (zfill (zcb pl o (pl 10 0)) (X 33) (pl 7 0))) 31 g2) (zs M 19 g3) := inv_fr h (uX_zs (uX_zs (uX_zs (fun _ _ => rfl) rfl) rfl) rfl) (uM_zs (fun _ _ => rfl) rfl)
  have hB := zBR_b (pl := pl) (o := o) (2 ^ pl 7 0) 0 none (fun b hb => by cases hb)
  have hpw := pow7 (k := pl 7 0) (by omega)
  generalize zBR pl o (2 ^ pl 7 0) 0 none = st at eX eM hB
  have hend0 : (if (zbm pl st).2 < 0 then some ((zbm pl st).2, zs M 19 g3) else if (0 : Int32) = 1 then some ((zbm pl st).2, zs M 19 g3) else some ((zbm pl st).1, zs M 19 g3)) = some ((zbx pl st).2, zs M 19 g3) := by
    cases st with
    | none => rfl
    | some b =>
      have := hB b rfl
      rw [if_neg (by show ¬ nI b < 0; exact nI_pos (by omega)), if_neg (by decide)]
      rfl
  have hend1 : (if (zbm pl st).2 < 0 then some ((zbm pl st).2, zs M 19 g3) else if (1 : Int32) = 1 then some ((zbm pl st).2, zs M 19 g3) else some ((zbm pl st).1, zs M 19 g3)) = some ((zbx pl st).1, zs M 19 g3) := by
    cases st with
    | none => rfl
    | some b =>
      have := hB b rfl
      rw [if_neg (by show ¬ nI b < 0; exact nI_pos (by omega)), if_pos rfl]
      rfl
  unfold f_X8_bribes f_X9_bribes
  rcases two (b := a) with (c | c) | c
  · subst c
    rw [if_pos rfl, pb2 e1, pb4 eX, if_pos rfl, pb1 (in_y (tL _) (lo := 0) (hi := 1) rfl rfl (by decide) (by decide)), if_neg i10, pb4 eM]
    exact ⟨_, _, _, rfl, hend0, hI⟩
  · subst c
    rw [if_neg (by decide), if_pos rfl, pb2 e1, pb4 eX, if_neg (by decide), pb1 (in_y (tL _) (lo := 0) (hi := 1) rfl rfl (by decide) (by decide)), if_neg i10, pb4 eM]
    exact ⟨_, _, _, rfl, hend1, hI⟩
  · have e0 : (0 : Int32).toInt = 0 := rfl
    have e1 : (1 : Int32).toInt = 1 := rfl
    have c0 : ¬ a = 0 := fun e => by rw [e] at c; omega
    have c1 : ¬ a = 1 := fun e => by rw [e] at c; omega
    rw [if_neg c0, if_neg c1, pb1 (in_n (tL _) (lo := 0) (hi := 1) rfl rfl c), if_pos rfl]
    exact ⟨_, _, _, rfl, rfl, h⟩
