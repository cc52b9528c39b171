/-! what an order costs -/
def oW (pl : zN) (p : List Nat) (i : Nat) : Nat := zCN pl i (zSL i (p.idxOf i) (pl 10 0))
def oD (a b : Nat) : Nat := (a - b) + (b - a)
def oE (pl : zN) (p : List Nat) (s : Nat) : Nat := if pl 4 s ∈ p ∧ pl 5 s ∈ p then oD (oW pl p (pl 4 s)) (oW pl p (pl 5 s)) else 0
def oF (pl : zN) (p : List Nat) (i s : Nat) : Nat := if (pl 4 s = i ∧ pl 5 s ∈ p) ∨ (pl 5 s = i ∧ pl 4 s ∈ p) then oD (oW pl (p ++ [i]) (pl 4 s)) (oW pl (p ++ [i]) (pl 5 s)) else 0
def oZ (f : Nat → Nat) : Nat → Nat
  | 0 => 0
  | n + 1 => oZ f n + f n
def oP (pl : zN) (p : List Nat) : Nat := oZ (oE pl p) (pl 8 0)
theorem oZ_c {f g : Nat → Nat} : ∀ {n}, (∀ i, i < n → f i = g i) → oZ f n = oZ g n
  | 0, _ => rfl
  | n + 1, h => by rw [oZ, oZ, oZ_c (fun i hi => h i (by omega)), h n (by omega)]
theorem oZ_a {f g : Nat → Nat} : ∀ n, oZ (fun i => f i + g i) n = oZ f n + oZ g n
  | 0 => rfl
  | n + 1 => by rw [oZ, oZ, oZ, oZ_a n]; omega
theorem oZ_b {f : Nat → Nat} {c : Nat} : ∀ n, (∀ i, i < n → f i ≤ c) → oZ f n ≤ c * n
  | 0, _ => Nat.le_refl _
  | n + 1, h => by
    have h1 := oZ_b n (fun i hi => h i (by omega))
    have h2 := h n (by omega)
    rw [oZ, Nat.mul_succ]
    omega
theorem oD_b {a b : Nat} (ha : a ≤ 299) (hb : b ≤ 299) : oD a b ≤ 299 := by unfold oD; omega
theorem oD_e {a b : Nat} (ha : a ≤ 299) (hb : b ≤ 299) : zabs (nI a - nI b) = nI (oD a b) := by
  have e : nI a - nI b = iI ((a : Int) - b) := by rw [← iI_n, ← iI_n, iI_sub]
  unfold zabs oD
  rw [e]
  by_cases c : a < b
  · rw [if_pos (by rw [ltT, iI_t (by omega) (by omega)]; show (a : Int) - b < 0; omega), iI_neg, ← iI_n]
    congr 1
    omega
  · rw [if_neg (by rw [ltT, iI_t (by omega) (by omega)]; show ¬ (a : Int) - b < 0; omega), ← iI_n]
    congr 1
    omega
theorem oW_b {pl : zN} (hw : iWF pl) {p : List Nat} {i : Nat} (hi : i < pl 7 0) : oW pl p i ≤ 299 := (zCN_b hw hi (zSL_b _ _ _)).2
theorem oW_a {pl : zN} {p : List Nat} {i j : Nat} (h : j ∈ p) : oW pl (p ++ [i]) j = oW pl p j := by
  unfold oW
  rw [List.idxOf_append, if_pos h]
theorem oW_l {pl : zN} {p : List Nat} {i : Nat} (h : ¬ i ∈ p) : oW pl (p ++ [i]) i = zCN pl i (zSL i p.length (pl 10 0)) := by
  unfold oW
  rw [List.idxOf_append, if_neg h, List.idxOf_cons_self, Nat.zero_add]
theorem oP_b {pl : zN} (hw : iWF pl) (p : List Nat) : oP pl p ≤ 299 * 10 := by
  have hb := hw.1
  refine Nat.le_trans (oZ_b (c := 299) (pl 8 0) (fun s hs => ?_)) (Nat.mul_le_mul_left _ (by omega))
  obtain ⟨w1, w2, -⟩ := hw.2.2.2 s hs
  unfold oE
  split
  · exact oD_b (oW_b hw w1) (oW_b hw w2)
  · omega
theorem oE_s {pl : zN} (hw : iWF pl) {p : List Nat} {i s : Nat} (hi : ¬ i ∈ p) (hs : s < pl 8 0) : oE pl (p ++ [i]) s = oE pl p s + oF pl p i s := by
  obtain ⟨-, -, w3⟩ := hw.2.2.2 s hs
  unfold oE oF
  by_cases c1 : pl 4 s ∈ p
  · have n1 : ¬ pl 4 s = i := fun e => hi (e ▸ c1)
    by_cases c2 : pl 5 s ∈ p
    · have n2 : ¬ pl 5 s = i := fun e => hi (e ▸ c2)
      rw [if_pos ⟨List.mem_append_left _ c1, List.mem_append_left _ c2⟩, if_pos ⟨c1, c2⟩, if_neg (by rintro (h | h); exact n1 h.1; exact n2 h.1), oW_a c1, oW_a c2]
      rfl
    · by_cases c3 : pl 5 s = i
      · rw [if_pos ⟨List.mem_append_left _ c1, by rw [c3]; exact List.mem_append_right _ (List.mem_singleton.mpr rfl)⟩, if_neg (fun h => c2 h.2), if_pos (Or.inr ⟨c3, c1⟩), Nat.zero_add]
      · rw [if_neg (fun h => by
          rcases List.mem_append.mp h.2 with q | q
          · exact c2 q
          · exact c3 (List.mem_singleton.mp q)), if_neg (fun h => c2 h.2), if_neg (by rintro (h | h); exact c2 h.2; exact c3 h.1)]
  · by_cases c3 : pl 4 s = i
    · by_cases c2 : pl 5 s ∈ p
      · rw [if_pos ⟨by rw [c3]; exact List.mem_append_right _ (List.mem_singleton.mpr rfl), List.mem_append_left _ c2⟩, if_neg (fun h => c1 h.1), if_pos (Or.inl ⟨c3, c2⟩), Nat.zero_add]
      · have n2 : ¬ pl 5 s = i := fun e => w3 (c3.trans e.symm)
        rw [if_neg (fun h => by
          rcases List.mem_append.mp h.2 with q | q
          · exact c2 q
          · exact n2 (List.mem_singleton.mp q)), if_neg (fun h => c1 h.1), if_neg (by rintro (h | h); exact c2 h.2; exact n2 h.1)]
    · rw [if_neg (fun h => by
          rcases List.mem_append.mp h.1 with q | q
          · exact c1 q
          · exact c3 (List.mem_singleton.mp q)), if_neg (fun h => c1 h.1), if_neg (by rintro (h | h); exact c3 h.1; exact c1 h.2)]
theorem oP_s {pl : zN} (hw : iWF pl) {p : List Nat} {i : Nat} (hi : ¬ i ∈ p) : oP pl (p ++ [i]) = oP pl p + oZ (oF pl p i) (pl 8 0) := by
  unfold oP
  rw [← oZ_a]
  exact oZ_c (fun s hs => oE_s hw hi hs)
/-! the least so far -/
def oU (pl : zN) (B : Nat × List Nat) (l : List Nat) : Nat × List Nat := if oP pl l < B.1 then (oP pl l, l) else B
theorem oU_keep {pl : zN} {B : Nat × List Nat} {f : Nat → List (List Nat)} : ∀ L : List Nat, (∀ i, i ∈ L → (f i).foldl (oU pl) B = B) → (L.flatMap f).foldl (oU pl) B = B
  | [], _ => rfl
  | a :: L, h => by
    rw [List.flatMap_cons, List.foldl_append, h a List.mem_cons_self]
    exact oU_keep L (fun i hi => h i (List.mem_cons_of_mem _ hi))
theorem oU_cut {pl : zN} (hw : iWF pl) {B : Nat × List Nat} (n : Nat) : ∀ d q, B.1 ≤ oP pl q → (oLv n d q).foldl (oU pl) B = B
  | 0, q, h => by
    show oU pl B q = B
    unfold oU
    rw [if_neg (by omega)]
  | d + 1, q, h => by
    rw [oLv]
    refine oU_keep _ (fun i _ => ?_)
    cases c : q.contains i with
    | true => rfl
    | false =>
      refine oU_cut hw n d (q ++ [i]) ?_
      rw [oP_s hw (by intro h2; rw [← List.contains_iff_mem, c] at h2; cases h2)]
      omega
/-! what is placed -/
def oI (x : Int32) (p : List Nat) : Prop := ∃ b, b < 128 ∧ x = nI b ∧ ∀ j, j < 7 → (zbit b j = true ↔ j ∈ p)
theorem o_or : ∀ b, b < 128 → ∀ i, i < 7 → nI b ||| ((1 : Int32) <<< (nI i &&& 31)) = nI (b ||| 2 ^ i) ∧ b ||| 2 ^ i < 128 ∧ ∀ j, j < 7 → zbit (b ||| 2 ^ i) j = (zbit b j || decide (j = i)) := by decide +kernel
theorem o_and : ∀ b, b < 128 → ∀ i, i < 7 → zbit b i = false → (nI b ||| ((1 : Int32) <<< (nI i &&& 31))) &&& (((1 : Int32) <<< (nI i &&& 31)) ^^^ (-1)) = nI b := by decide +kernel
theorem oI_y {x : Int32} {p : List Nat} (h : oI x p) {i : Nat} (hi : i < 7) (hp : ¬ i ∈ p) : oI (x ||| ((1 : Int32) <<< (nI i &&& 31))) (p ++ [i]) ∧ (x ||| ((1 : Int32) <<< (nI i &&& 31))) &&& (((1 : Int32) <<< (nI i &&& 31)) ^^^ (-1)) = x := by
  obtain ⟨b, hb, rfl, h2⟩ := h
  obtain ⟨e1, e2, e3⟩ := o_or b hb i hi
  refine ⟨⟨_, e2, e1, fun j hj => ?_⟩, o_and b hb i hi ?_⟩
  · rw [e3 j hj, Bool.or_eq_true, h2 j hj, decide_eq_true_iff, List.mem_append, List.mem_singleton]
  · cases c : zbit b i with
    | false => rfl
    | true => exact absurd ((h2 i hi).mp c) hp
theorem oI_q {Y : zMm} {p : List Nat} (h : oI (Y 5 0) p) {i : Nat} (hi : i < 7) : f_X3_isPlaced Y (nI i) = some (if i ∈ p then 1 else 0) := by
  obtain ⟨b, hb, e, h2⟩ := h
  unfold f_X3_isPlaced
  rw [e]
  by_cases c : i ∈ p
  · rw [if_pos ((bitI (by omega) (by omega)).mpr ((h2 i hi).mpr c)), if_pos c]
  · rw [if_neg (fun q => c ((h2 i hi).mp ((bitI (by omega) (by omega)).mp q))), if_neg c]
theorem oI_0 : oI 0 [] := ⟨0, by decide, rfl, by intro j hj; revert j; decide⟩
/-! the class's search -/
theorem gwp_loop {P Y : zMm} {pl : zN} (hp : iPlX P pl) (hw : iWF pl) {p : List Nat} {i : Nat} (hi : i < pl 7 0) (hI : oI (Y 5 0) p) (hR : ∀ j, j ∈ p ++ [i] → Y 4 j = nI (oW pl (p ++ [i]) j)) : ∀ m k f, k + m = pl 8 0 → m < f → L_X3_gapsWithPlaced_5 Y P (nI i) f (nI (oZ (oF pl p i) k)) (nI k) = some (nI (oZ (oF pl p i) (pl 8 0)), nI (pl 8 0)) := by
  have hb := hw.1
  have e8 : P 8 0 = nI (pl 8 0) := hp.1.2.2.1
  intro m
  induction m with
  | zero =>
    intro k n hk hn
    obtain ⟨n, rfl⟩ : ∃ n', n = n' + 1 := ⟨n - 1, by omega⟩
    rw [L_X3_gapsWithPlaced_5, e8, if_pos (by rw [n_le (by omega) (by omega)]; omega), show k = pl 8 0 by omega]
  | succ m ih =>
    intro k n hk hn
    obtain ⟨n, rfl⟩ : ∃ n', n = n' + 1 := ⟨n - 1, by omega⟩
    have hk8 : k < pl 8 0 := by omega
    obtain ⟨w1, w2, w3⟩ := hw.2.2.2 k hk8
    obtain ⟨e1, e2⟩ := hp.2.2.2 k hk8
    rw [L_X3_gapsWithPlaced_5, e8, if_neg (by rw [n_le (by omega) (by omega)]; omega), pl_k rfl (by omega) (by omega), pl_k rfl (by omega) (by omega), e1, e2]
    have q1 := oI_q hI (i := pl 4 k) (by omega)
    have q2 := oI_q hI (i := pl 5 k) (by omega)
    have g1 : f_X5_gapOf P (fun j => Y (4 + j)) (nI k) = some (zGAP pl (Y 4) k) := gapX hp hw hk8
    have me : i ∈ p ++ [i] := List.mem_append_right _ (List.mem_singleton.mpr rfl)
    have gg : pl 4 k ∈ p ++ [i] → pl 5 k ∈ p ++ [i] → zGAP pl (Y 4) k = nI (oD (oW pl (p ++ [i]) (pl 4 k)) (oW pl (p ++ [i]) (pl 5 k))) := fun a b => by
      unfold zGAP
      rw [hR _ a, hR _ b, oD_e (oW_b hw w1) (oW_b hw w2)]
    have i01 : ¬ (1 : Int32) = 0 := by decide
    have key : oZ (oF pl p i) (k + 1) = oZ (oF pl p i) k + oF pl p i k := rfl
    have fin : (K : Int32 → Option (Int32 × Int32)) → (o : Option Int32) → o = some (nI (oZ (oF pl p i) (k + 1))) → zb1 o K = K (nI (oZ (oF pl p i) (k + 1))) := fun K o h => pb1 h
    by_cases c1 : pl 4 k = i
    · have c2 : ¬ pl 5 k = i := fun e => w3 (c1.trans e.symm)
      rw [fin]
      · rw [pv, n_1, n_add]; exact ih (k + 1) n (by omega) (by omega)
      · rw [if_pos (by rw [c1]), pb1 q2]
        by_cases c3 : pl 5 k ∈ p
        · rw [if_pos c3, if_neg i01, pb1 g1, pv, gg (by rw [c1]; exact me) (List.mem_append_left _ c3), n_add, key, show oF pl p i k = _ from if_pos (Or.inl ⟨c1, c3⟩)]
        · rw [if_neg c3, if_pos rfl, if_neg (by rw [n_eq (by omega) (by omega)]; exact c2), key, show oF pl p i k = _ from if_neg (by rintro (h | h); exact c3 h.2; exact c2 h.1)]
          rfl
    · by_cases c2 : pl 5 k = i
      · rw [fin]
        · rw [pv, n_1, n_add]; exact ih (k + 1) n (by omega) (by omega)
        · rw [if_neg (by rw [n_eq (by omega) (by omega)]; exact c1), if_pos (by rw [c2]), pb1 q1]
          by_cases c3 : pl 4 k ∈ p
          · rw [if_pos c3, if_neg i01, pb1 g1, pv, gg (List.mem_append_left _ c3) (by rw [c2]; exact me), n_add, key, show oF pl p i k = _ from if_pos (Or.inr ⟨c2, c3⟩)]
          · rw [if_neg c3, if_pos rfl, key, show oF pl p i k = _ from if_neg (by rintro (h | h); exact c1 h.1; exact c3 h.2)]
            rfl
      · rw [fin]
        · rw [pv, n_1, n_add]; exact ih (k + 1) n (by omega) (by omega)
        · rw [if_neg (by rw [n_eq (by omega) (by omega)]; exact c1), if_neg (by rw [n_eq (by omega) (by omega)]; exact c2), key, show oF pl p i k = _ from if_neg (by rintro (h | h); exact c1 h.1; exact c2 h.1)]
          rfl
def oB (n : Nat) (Y : zMm) (B : Nat × List Nat) : Prop := B.1 ≤ 2991 ∧ Y 2 0 = nI B.1 ∧ ∀ j, j < n → B.1 < 2991 → Y 0 j = nI (oG B.2 j)
def oT (pl : zN) (Y : zMm) (p : List Nat) : Prop := oI (Y 5 0) p ∧ (∀ j, j < p.length → Y 3 j = nI (oG p j)) ∧ ∀ i, i ∈ p → Y 4 i = nI (oW pl p i)
theorem oG_l {p : List Nat} {i j : Nat} (h : j < p.length) : oG (p ++ [i]) j = oG p j := by
  unfold oG
  rw [List.getD_eq_getElem?_getD, List.getD_eq_getElem?_getD, List.getElem?_append_left h]
theorem oG_r {p : List Nat} {i : Nat} : oG (p ++ [i]) p.length = i := by
  unfold oG
  rw [List.getD_eq_getElem?_getD, List.getElem?_append_right (Nat.le_refl _), Nat.sub_self]
  rfl
def oRec (pl : zN) (P : zMm) (d : Nat) (rec : zMm → zMm → Int32 → Int32 → Option zMm) : Prop := ∀ (q : List Nat) (Y : zMm) (B : Nat × List Nat), q.length + d = pl 7 0 → (∀ i, i ∈ q → i < pl 7 0) → oT pl Y q → oB (pl 7 0) Y B → oP pl q < B.1 → ∃ Y', rec Y P (nI q.length) (nI (oP pl q)) = some Y' ∧ oT pl Y' q ∧ Y' 5 0 = Y 5 0 ∧ oB (pl 7 0) Y' ((oLv (pl 7 0) d q).foldl (oU pl) B)
theorem tryPart {P Y : zMm} {pl : zN} (hp : iPlX P pl) (hw : iWF pl) {d : Nat} {rec : zMm → zMm → Int32 → Int32 → Option zMm} (hr : oRec pl P d rec) {p : List Nat} {B : Nat × List Nat} (hd : p.length + (d + 1) = pl 7 0) (ha : ∀ i, i ∈ p → i < pl 7 0) (hT : oT pl Y p) (hB : oB (pl 7 0) Y B) {i : Nat} (hi : i < pl 7 0) (hn : ¬ i ∈ p) : ∃ Y', f_X3_tryPart rec Y P (nI i) (nI p.length) (nI (oP pl p)) = some Y' ∧ oT pl Y' p ∧ Y' 5 0 = Y 5 0 ∧ oB (pl 7 0) Y' ((oLv (pl 7 0) d (p ++ [i])).foldl (oU pl) B) := by
  have hb := hw.1
  obtain ⟨t1, t2, t3⟩ := hT
  obtain ⟨u1, u2, u3⟩ := hB
  have hs := zSL_b i p.length (pl 10 0)
  have eC : zcut pl i (iI (zSL i p.length (pl 10 0))) = nI (oW pl (p ++ [i]) i) := by
    rw [oW_l hn, zcut_n hw hi (by omega)]
  unfold f_X3_tryPart
  rw [pw_k rfl (by omega) (by omega), hp.1.2.2.2.2.1, pb1 (slipX (by omega) (by omega) (by omega)), pb1 (cutX hp hw hi _), eC, pw_k rfl (by omega) (by omega)]
  generalize hM : zs (zs Y 3 (upd (Y 3) p.length (nI i))) 4 (upd ((zs Y 3 (upd (Y 3) p.length (nI i))) 4) i (nI (oW pl (p ++ [i]) i))) = Z
  have z0 : Z 0 = Y 0 := by rw [← hM]; rfl
  have z2 : Z 2 = Y 2 := by rw [← hM]; rfl
  have z3 : Z 3 = upd (Y 3) p.length (nI i) := by rw [← hM]; rfl
  have z4 : Z 4 = upd (Y 4) i (nI (oW pl (p ++ [i]) i)) := by rw [← hM]; rfl
  have z5 : Z 5 = Y 5 := by rw [← hM]; rfl
  have r4 : ∀ j, j ∈ p ++ [i] → Z 4 j = nI (oW pl (p ++ [i]) j) := fun j hj => by
    rw [z4]
    by_cases c : j = i
    · subst c; rw [up_s]
    · rw [up_n _ _ c]
      have : j ∈ p := by
        rcases List.mem_append.mp hj with q | q
        · exact q
        · exact absurd (List.mem_singleton.mp q) c
      rw [t3 j this, oW_a this]
  have e : L_X3_gapsWithPlaced_5 Z P (nI i) 100000 0 0 = _ := gwp_loop (Y := Z) hp hw hi (by rw [z5]; exact t1) r4 (pl 8 0) 0 100000 (by omega) (by omega)
  have e2 : f_X3_gapsWithPlaced Z P (nI i) = some (nI (oZ (oF pl p i) (pl 8 0))) := by
    unfold f_X3_gapsWithPlaced
    rw [pb2 e]
  have hq := oP_b hw (p ++ [i])
  have r3 : ∀ j, j < p.length → Z 3 j = nI (oG p j) := fun j hj => by rw [z3, up_n _ _ (by omega)]; exact t2 j hj
  have r4' : ∀ j, j ∈ p → Z 4 j = nI (oW pl p j) := fun j hj => by rw [r4 j (List.mem_append_left _ hj), oW_a hj]
  have zB : oB (pl 7 0) Z B := ⟨u1, by rw [z2]; exact u2, by rw [z0]; exact u3⟩
  rw [pb1 e2, n_add, ← oP_s hw hn, pv, z2, u2]
  by_cases c : B.1 ≤ oP pl (p ++ [i])
  · rw [if_pos ((n_le (by omega) (by omega)).mpr c), oU_cut hw _ _ _ c]
    exact ⟨Z, rfl, ⟨by rw [z5]; exact t1, r3, r4'⟩, by rw [z5], zB⟩
  · rw [if_neg (fun h => c ((n_le (by omega) (by omega)).mp h)), pv, n_1, n_add, z5]
    obtain ⟨s1, s2⟩ := oI_y t1 (i := i) (by omega) hn
    have hl : (p ++ [i]).length = p.length + 1 := by rw [List.length_append]; rfl
    obtain ⟨Y', v1, v2, v3, v4⟩ := hr (p ++ [i]) (zs Z 5 (fun _ => Y 5 0 ||| (1 : Int32) <<< (nI i &&& 31))) B (by rw [hl]; omega) (fun j hj => by
        rcases List.mem_append.mp hj with q | q
        · exact ha j q
        · rw [List.mem_singleton.mp q]; exact hi) ⟨s1, fun j hj => by
        show Z 3 j = _
        rw [z3]
        rcases Nat.lt_or_ge j p.length with q | q
        · rw [up_n _ _ (by omega), oG_l q]; exact t2 j q
        · have : j = p.length := by rw [hl] at hj; omega
          rw [this, up_s, oG_r], r4⟩ zB (by omega)
    rw [hl] at v1
    have v1' : rec (zs Z 5 (fun _ => Y 5 0 ||| nI 1 <<< (nI i &&& 31))) P (nI (p.length + 1)) (nI (oP pl (p ++ [i]))) = some Y' := v1
    have v3' : Y' 5 0 = Y 5 0 ||| (1 : Int32) <<< (nI i &&& 31) := v3
    have s2' : Y' 5 0 &&& (nI 1 <<< (nI i &&& 31) ^^^ -nI 1) = Y 5 0 := by
      rw [v3']; exact s2
    rw [pb1 v1', pv]
    refine ⟨_, rfl, ⟨?_, fun j hj => ?_, fun j hj => ?_⟩, s2', v4⟩
    · show oI (Y' 5 0 &&& (nI 1 <<< (nI i &&& 31) ^^^ -nI 1)) p
      rw [s2']; exact t1
    · show Y' 3 j = _
      rw [v2.2.1 j (by rw [hl]; omega), oG_l hj]
    · show Y' 4 j = _
      rw [v2.2.2 j (List.mem_append_left _ hj), oW_a hj]
