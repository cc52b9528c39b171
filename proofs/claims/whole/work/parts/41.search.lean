theorem tp_loop {P : zMm} {pl : zN} (hp : iPlX P pl) (hw : iWF pl) {d : Nat} {rec : zMm → zMm → Int32 → Int32 → Option zMm} (hr : oRec pl P d rec) {p : List Nat} (hd : p.length + (d + 1) = pl 7 0) (ha : ∀ i, i ∈ p → i < pl 7 0) (x0 : Int32) : ∀ m a f Y B, a + m = pl 7 0 → m < f → oT pl Y p → Y 5 0 = x0 → oB (pl 7 0) Y B → ∃ Y', L_X3_tryPlace_49 rec P (nI p.length) (nI (oP pl p)) f (nI a) Y = some (nI (pl 7 0), Y') ∧ oT pl Y' p ∧ Y' 5 0 = x0 ∧ oB (pl 7 0) Y' (((List.range' a m).flatMap (fun i => bif p.contains i then [] else oLv (pl 7 0) d (p ++ [i]))).foldl (oU pl) B) := by
  have hb := hw.1
  have e7 : P 7 0 = nI (pl 7 0) := hp.1.2.1
  intro m
  induction m with
  | zero =>
    intro a n Y B hk hn hT h5 hB
    obtain ⟨n, rfl⟩ : ∃ n', n = n' + 1 := ⟨n - 1, by omega⟩
    rw [L_X3_tryPlace_49, e7, if_pos (by rw [n_le (by omega) (by omega)]; omega), show a = pl 7 0 by omega]
    exact ⟨Y, rfl, hT, h5, hB⟩
  | succ m ih =>
    intro a n Y B hk hn hT h5 hB
    obtain ⟨n, rfl⟩ : ∃ n', n = n' + 1 := ⟨n - 1, by omega⟩
    rw [L_X3_tryPlace_49, e7, if_neg (by rw [n_le (by omega) (by omega)]; omega), pb1 (oI_q hT.1 (i := a) (by omega)), List.range'_succ, List.flatMap_cons, List.foldl_append]
    by_cases c : a ∈ p
    · have hc : p.contains a = true := List.contains_iff_mem.mpr c
      rw [if_pos c, if_neg (by decide), pb1 rfl, pv, n_1, n_add, hc]
      exact ih (a + 1) n Y B (by omega) (by omega) hT h5 hB
    · have hc : p.contains a = false := by
        cases q : p.contains a with
        | false => rfl
        | true => exact absurd (List.contains_iff_mem.mp q) c
      obtain ⟨Y1, v1, v2, v3, v4⟩ := tryPart hp hw hr hd ha hT hB (by omega : a < pl 7 0) c
      rw [if_neg c, if_pos rfl, pb1 v1, pb1 rfl, pv, n_1, n_add, hc]
      exact ih (a + 1) n Y1 _ (by omega) (by omega) v2 (v3.trans h5) v4
theorem ocp_loop {P : zMm} {n : Nat} (e7 : P 7 0 = nI n) (hn7 : n ≤ 7) (rec : zMm → zMm → Int32 → Int32 → Option zMm) (a b : Int32) (Y : zMm) : ∀ m k f, k + m = n → m < f → L_X3_tryPlace_16 rec P a b f (nI k) (zs Y 0 (zfill (Y 3) (Y 0) k)) = some (nI n, zs Y 0 (zfill (Y 3) (Y 0) n)) := by
  intro m
  induction m with
  | zero =>
    intro k f hk hf
    obtain ⟨f, rfl⟩ : ∃ n', f = n' + 1 := ⟨f - 1, by omega⟩
    rw [L_X3_tryPlace_16, e7, if_pos (by rw [n_le (by omega) (by omega)]; omega), show k = n by omega]
  | succ m ih =>
    intro k f hk hf
    obtain ⟨f, rfl⟩ : ∃ n', f = n' + 1 := ⟨f - 1, by omega⟩
    rw [L_X3_tryPlace_16, e7, if_neg (by rw [n_le (by omega) (by omega)]; omega), pl_k rfl (by omega) (by omega), pw_k rfl (by omega) (by omega), pv, n_1, n_add, zs_s, zs_zs]
    have : (zs Y 0 (zfill (Y 3) (Y 0) k)) 3 = Y 3 := rfl
    rw [this, zfill_s]
    exact ih (k + 1) f (by omega) (by omega)
theorem tryPlace {P : zMm} {pl : zN} (hp : iPlX P pl) (hw : iWF pl) : ∀ d e, d < e → oRec pl P d (F_X3_tryPlace e) := by
  have hb := hw.1
  have e7 : P 7 0 = nI (pl 7 0) := hp.1.2.1
  intro d
  induction d with
  | zero =>
    intro e he q Y B h1 h2 hT hB h3
    obtain ⟨e, rfl⟩ : ∃ n', e = n' + 1 := ⟨e - 1, by omega⟩
    have hq := oP_b hw q
    have c := ocp_loop e7 (by omega) (F_X3_tryPlace e) (nI q.length) (nI (oP pl q)) (zs Y 2 (fun _ => nI (oP pl q))) (pl 7 0) 0 100000 (by omega) (by omega)
    rw [zfill_0, zs_self] at c
    have c : L_X3_tryPlace_16 (F_X3_tryPlace e) P (nI q.length) (nI (oP pl q)) 100000 0 (zs Y 2 (fun _ => nI (oP pl q))) = _ := c
    rw [F_X3_tryPlace]
    unfold f_X3_tryPlace
    rw [e7, if_neg (by rw [n_lt (by omega) (by omega)]; omega), pv, pb2 c]
    have eB : (oLv (pl 7 0) 0 q).foldl (oU pl) B = (oP pl q, q) := if_pos h3
    rw [eB]
    refine ⟨_, rfl, hT, rfl, ⟨?_, rfl, fun j hj _ => ?_⟩⟩
    · show oP pl q ≤ 2991
      omega
    · show zfill (Y 3) (Y 0) (pl 7 0) j = nI (oG q j)
      rw [zfill_in _ _ hj]
      exact hT.2.1 j (by omega)
  | succ d ih =>
    intro e he q Y B h1 h2 hT hB h3
    obtain ⟨e, rfl⟩ : ∃ n', e = n' + 1 := ⟨e - 1, by omega⟩
    obtain ⟨Y', v1, v2, v3, v4⟩ := tp_loop hp hw (ih e (by omega)) h1 h2 (Y 5 0) (pl 7 0) 0 100000 Y B (by omega) (by omega) hT rfl hB
    have v1 : L_X3_tryPlace_49 (F_X3_tryPlace e) P (nI q.length) (nI (oP pl q)) 100000 0 Y = _ := v1
    rw [F_X3_tryPlace]
    unfold f_X3_tryPlace
    rw [e7, if_pos (by rw [n_lt (by omega) (by omega)]; omega), pb2 v1]
    refine ⟨Y', rfl, v2, v3, ?_⟩
    rw [oLv, List.range_eq_range']
    exact v4
def oBest (pl : zN) : Nat × List Nat := (oLv (pl 7 0) (pl 7 0) []).foldl (oU pl) (2991, [])
theorem oP_0 (pl : zN) : oP pl [] = 0 := by
  have : oP pl [] = oZ (fun _ => 0) (pl 8 0) := oZ_c (fun s _ => if_neg (fun h => absurd h.1 (List.not_mem_nil)))
  rw [this]
  have h := oZ_b (f := fun _ => 0) (c := 0) (pl 8 0) (fun _ _ => Nat.le_refl _)
  omega
theorem searchX {Y P : zMm} {pl : zN} (hp : iPlX P pl) (hw : iWF pl) : ∃ Y1, f_X3_search Y P = some Y1 ∧ Y1 1 0 = 1 ∧ oB (pl 7 0) Y1 (oBest pl) := by
  have hb := hw.1
  obtain ⟨Y', v1, v2, v3, v4⟩ := tryPlace hp hw (pl 7 0) 9 (by omega) [] (zs (zs Y 2 (fun _ => 2991)) 5 (fun _ => 0)) (2991, []) (by show 0 + _ = _; omega) (fun i hi => absurd hi List.not_mem_nil) ⟨oI_0, fun j hj => absurd hj (Nat.not_lt_zero _), fun j hj => absurd hj List.not_mem_nil⟩ ⟨Nat.le_refl _, rfl, fun j _ h => absurd h (Nat.lt_irrefl _)⟩ (by rw [oP_0]; decide)
  have v1 : F_X3_tryPlace 9 (zs (zs Y 2 (fun _ => 2991)) 5 (fun _ => 0)) P 0 (nI (oP pl [])) = some Y' := v1
  rw [oP_0] at v1
  have v1 : F_X3_tryPlace 9 (zs (zs Y 2 (fun _ => 2991)) 5 (fun _ => 0)) P 0 0 = some Y' := v1
  unfold f_X3_search
  rw [pv, pv, pb1 v1, pv]
  exact ⟨_, rfl, rfl, v4⟩
