/-! the class's search for bolts -/
def bT (ln : Nat → Nat) (Y : zMm) (p : List Nat) (most : Nat) : Prop := (∀ j, j < p.length → Y 0 j = nI (oG p j)) ∧ (∀ b, b < 7 → Y 1 b = nI (bL ln p b p.length)) ∧ Y 2 0 = nI most
def bFd (ln : Nat → Nat) (C n most : Nat) (L : List (List Nat)) : Option (List Nat) := L.find? (fun l => Nat.ble (bc ln C n l) most)
def bEnd (n : Nat) (Y : zMm) (r : Int32) : Option (List Nat) → Prop
  | none => r = 0
  | some l => r = 1 ∧ ∀ j, j < n → Y 0 j = nI (oG l j)
def bRec (ln : Nat → Nat) (C n most : Nat) (P1 P2 : zMm) (d : Nat) (rec : zMm → zMm → zMm → Int32 → Int32 → Option (Int32 × zMm)) : Prop := ∀ (q : List Nat) (Y : zMm), q.length + d = n → bMx q q.length ≤ q.length → bT ln Y q most → bOK ln C q q.length = true → bMx q q.length ≤ most → ∃ r Y', rec Y P1 P2 (nI q.length) (nI (bMx q q.length)) = some (r, Y') ∧ bT ln Y' q most ∧ bEnd n Y' r (bFd ln C n most (bLv d q (bMx q q.length)))
theorem len_s (p : List Nat) (i : Nat) : (p ++ [i]).length = p.length + 1 := by rw [List.length_append]; rfl
theorem bMx_s (p : List Nat) (i : Nat) : bMx (p ++ [i]) (p.length + 1) = max (bMx p p.length) (i + 1) := by
  rw [bMx, oG_r, bMx_c (q := p) (fun j hj => oG_l hj)]
theorem bL_s (ln : Nat → Nat) (p : List Nat) (i b : Nat) : bL ln (p ++ [i]) b (p.length + 1) = bL ln p b p.length + (if i = b then ln p.length else 0) := by
  have e : bL ln (p ++ [i]) b (p.length + 1) = bL ln (p ++ [i]) b p.length + (if oG (p ++ [i]) p.length = b then ln p.length else 0) := rfl
  rw [e, oG_r, bL_c (q := p) (fun j hj => oG_l hj)]
theorem bOK_s (ln : Nat → Nat) (C : Nat) (p : List Nat) (i : Nat) : bOK ln C (p ++ [i]) (p.length + 1) = (bOK ln C p p.length && Nat.ble (bL ln p i p.length + ln p.length) C) := by
  rw [bOK, oG_r, bOK_c (q := p) (fun j hj => oG_l hj), bL_s, if_pos rfl]
theorem bc_no {ln : Nat → Nat} {C n d g : Nat} {q l : List Nat} (hd : q.length + d = n) (h : bOK ln C q q.length = false) (hl : l ∈ bLv d q g) : bc ln C n l = 99 := by
  obtain ⟨s, h1, h2⟩ := bLv_pre d q g l hl
  have e : bOK ln C l q.length = false := by rw [← h, h1]; exact bOK_c (fun j hj => oG_pre hj)
  have e2 := bOK_dn e d
  unfold bc
  rw [← hd, e2]
  rfl
theorem bc_ge {ln : Nat → Nat} {C n d g : Nat} {q l : List Nat} (hd : q.length + d = n) (hm : bMx q q.length ≤ 99) (hl : l ∈ bLv d q g) : bMx q q.length ≤ bc ln C n l := by
  obtain ⟨s, h1, h2⟩ := bLv_pre d q g l hl
  have e : bMx l q.length = bMx q q.length := by rw [h1]; exact bMx_c (fun j hj => oG_pre hj)
  have e2 := bMx_up (p := l) (j := q.length) d
  unfold bc
  rw [hd] at e2
  cases bOK ln C l n with
  | true => show _ ≤ bMx l n; omega
  | false => exact hm
theorem findsRest {ln : Nat → Nat} {C n most : Nat} {P1 P2 : zMm} (e11 : P1 11 0 = nI C) (hC : C ≤ 999) (hn : n ≤ 7) (hln : ∀ i, i < 7 → ln i ≤ 299) (hm : most ≤ 7) (h2 : ∀ i, i < n → P2 0 i = nI (ln i)) {d : Nat} {rec : zMm → zMm → zMm → Int32 → Int32 → Option (Int32 × zMm)} (hr : bRec ln C n most P1 P2 d rec) {p : List Nat} {Y : zMm} (hd : p.length + (d + 1) = n) (hg : bMx p p.length ≤ p.length) (hT : bT ln Y p most) (hok : bOK ln C p p.length = true) (hmx : bMx p p.length ≤ most) {i : Nat} (hi : i ≤ bMx p p.length) (him : i < most) : ∃ r Y', f_X0_findsRest rec (zs Y 0 (upd (Y 0) p.length (nI i))) P1 P2 (nI p.length) (nI (bMx p p.length)) = some (r, Y') ∧ bT ln Y' p most ∧ bEnd n Y' r (bFd ln C n most (bLv d (p ++ [i]) (Nat.max (bMx p p.length) (i + 1)))) := by
  obtain ⟨t1, t2, t3⟩ := hT
  have b1 := bL_b hln p i (k := p.length) (by omega)
  have b2 := hln p.length (by omega)
  generalize hZ : zs Y 0 (upd (Y 0) p.length (nI i)) = Z
  have z0 : Z 0 = upd (Y 0) p.length (nI i) := by rw [← hZ]; rfl
  have z1 : Z 1 = Y 1 := by rw [← hZ]; rfl
  have z2 : Z 2 = Y 2 := by rw [← hZ]; rfl
  have z0p : Z 0 p.length = nI i := by rw [z0, up_s]
  have hTZ : bT ln Z p most := ⟨fun j hj => by rw [z0, up_n _ _ (by omega)]; exact t1 j hj, by rw [z1]; exact t2, by rw [z2]; exact t3⟩
  have hq : (p ++ [i]).length + d = n := by rw [len_s]; omega
  unfold f_X0_findsRest
  rw [pl_k rfl (by omega) (by omega), z0p, pl_k rfl (by omega) (by omega), pl_k rfl (by omega) (by omega), z1, t2 i (by omega), h2 p.length (by omega), n_add, e11]
  by_cases c : bL ln p i p.length + ln p.length ≤ C
  · rw [if_pos ((n_le (by omega) (by omega)).mpr c), pl_k rfl (by omega) (by omega), pl_k rfl (by omega) (by omega), t2 i (by omega), h2 p.length (by omega), n_add, pw_k rfl (by omega) (by omega), pv, n_1, n_add, n_add]
    have eM : (if nI (bMx p p.length) < nI (i + 1) then nI (i + 1) else nI (bMx p p.length)) = nI (bMx (p ++ [i]) (p ++ [i]).length) := by
      rw [len_s, bMx_s]
      by_cases q : bMx p p.length < i + 1
      · rw [if_pos ((n_lt (by omega) (by omega)).mpr q), Nat.max_eq_right (by omega)]
      · rw [if_neg (fun h => q ((n_lt (by omega) (by omega)).mp h)), Nat.max_eq_left (by omega)]
    have eN : Nat.max (bMx p p.length) (i + 1) = bMx (p ++ [i]) (p ++ [i]).length := by rw [len_s, bMx_s]
    rw [eM, eN]
    have hT1 : bT ln (zs Z 1 (upd (Z 1) i (nI (bL ln p i p.length + ln p.length)))) (p ++ [i]) most := by
      refine ⟨fun j hj => ?_, fun b hb => ?_, ?_⟩
      · show Z 0 j = _
        rw [len_s] at hj
        rcases Nat.lt_or_ge j p.length with q | q
        · rw [hTZ.1 j q, oG_l q]
        · rw [show j = p.length by omega, z0p, oG_r]
      · show upd (Z 1) i (nI (bL ln p i p.length + ln p.length)) b = _
        rw [len_s, bL_s]
        by_cases q : b = i
        · subst q; rw [up_s, if_pos rfl]
        · rw [up_n _ _ q, if_neg (fun e => q e.symm), z1]; exact t2 b hb
      · show Z 2 0 = _
        rw [z2]; exact t3
    obtain ⟨r, Y', v1, v2, v3⟩ := hr (p ++ [i]) _ hq (by rw [len_s, bMx_s]; omega) hT1 (by rw [len_s, bOK_s, hok, Nat.ble_eq_true_of_le c]; rfl) (by rw [len_s, bMx_s]; omega)
    rw [show nI (p ++ [i]).length = nI (p.length + 1) by rw [len_s]] at v1
    rw [pb2 v1, pl_k rfl (by omega) (by omega), pl_k rfl (by omega) (by omega), v2.2.1 i (by omega), h2 p.length (by omega), pw_k rfl (by omega) (by omega)]
    have eS : nI (bL ln (p ++ [i]) i (p ++ [i]).length) - nI (ln p.length) = nI (bL ln p i p.length) := by
      rw [len_s, bL_s, if_pos rfl, ← iI_n, ← iI_n, iI_sub, ← iI_n]
      congr 1
      omega
    rw [eS]
    have hT2 : bT ln (zs Y' 1 (upd (Y' 1) i (nI (bL ln p i p.length)))) p most := by
      refine ⟨fun j hj => ?_, fun b hb => ?_, v2.2.2⟩
      · show Y' 0 j = _
        rw [v2.1 j (by rw [len_s]; omega), oG_l hj]
      · show upd (Y' 1) i (nI (bL ln p i p.length)) b = _
        by_cases q : b = i
        · subst q; rw [up_s]
        · rw [up_n _ _ q, v2.2.1 b hb, len_s, bL_s, if_neg (fun e => q e.symm), Nat.add_zero]
    have ez : zo r (some (r, zs Y' 1 (upd (Y' 1) i (nI (bL ln p i p.length))))) = some (r, zs Y' 1 (upd (Y' 1) i (nI (bL ln p i p.length)))) := by
      revert v3
      cases bFd ln C n most (bLv d (p ++ [i]) (bMx (p ++ [i]) (p ++ [i]).length)) with
      | none => intro v3; rw [show r = 0 from v3]; exact po0 _
      | some l => intro v3; rw [show r = 1 from v3.1]; exact po1 _
    rw [ez]
    refine ⟨r, _, rfl, hT2, ?_⟩
    revert v3
    cases bFd ln C n most (bLv d (p ++ [i]) (bMx (p ++ [i]) (p ++ [i]).length)) with
    | none => exact fun v3 => v3
    | some l => exact fun v3 => v3
  · rw [if_neg (fun h => c ((n_le (by omega) (by omega)).mp h))]
    refine ⟨0, Z, rfl, hTZ, ?_⟩
    have hf : bOK ln C (p ++ [i]) (p ++ [i]).length = false := by
      rw [len_s, bOK_s, hok]
      cases q : Nat.ble (bL ln p i p.length + ln p.length) C with
      | false => rfl
      | true => exact absurd (Nat.le_of_ble_eq_true q) c
    have e : bFd ln C n most (bLv d (p ++ [i]) (Nat.max (bMx p p.length) (i + 1))) = none := find_no (fun l hl => by rw [bc_no hq hf hl]; omega)
    rw [e]
    rfl
theorem fb_loop {ln : Nat → Nat} {C n most : Nat} {P1 P2 : zMm} (e11 : P1 11 0 = nI C) (hC : C ≤ 999) (hn : n ≤ 7) (hln : ∀ i, i < 7 → ln i ≤ 299) (hm : most ≤ 7) (h2 : ∀ i, i < n → P2 0 i = nI (ln i)) {d : Nat} {rec : zMm → zMm → zMm → Int32 → Int32 → Option (Int32 × zMm)} (hr : bRec ln C n most P1 P2 d rec) {p : List Nat} (hd : p.length + (d + 1) = n) (hg : bMx p p.length ≤ p.length) (hok : bOK ln C p p.length = true) (hmx : bMx p p.length ≤ most) : ∀ m a f Y, a + m = bMx p p.length + 1 → m < f → bT ln Y p most → ∃ r Y', L_X0_findsBolts_13 rec P1 P2 (nI p.length) (nI (bMx p p.length)) f (nI a) Y = some (r, Y') ∧ bT ln Y' p most ∧ bEnd n Y' r (bFd ln C n most ((List.range' a m).flatMap (fun i => bLv d (p ++ [i]) (Nat.max (bMx p p.length) (i + 1))))) := by
  intro m
  induction m with
  | zero =>
    intro a f Y h1 hf hT
    obtain ⟨f, rfl⟩ : ∃ n', f = n' + 1 := ⟨f - 1, by omega⟩
    rw [L_X0_findsBolts_13, if_pos (by rw [n_lt (by omega) (by omega)]; omega)]
    exact ⟨0, Y, rfl, hT, rfl⟩
  | succ m ih =>
    intro a f Y h1 hf hT
    obtain ⟨f, rfl⟩ : ∃ n', f = n' + 1 := ⟨f - 1, by omega⟩
    rw [L_X0_findsBolts_13, if_neg (by rw [n_lt (by omega) (by omega)]; omega), hT.2.2]
    by_cases c : most ≤ a
    · rw [if_pos ((n_le (by omega) (by omega)).mpr c)]
      refine ⟨0, Y, rfl, hT, ?_⟩
      have e : bFd ln C n most ((List.range' a (m + 1)).flatMap (fun i => bLv d (p ++ [i]) (Nat.max (bMx p p.length) (i + 1)))) = none := find_no (fun l hl => by
        obtain ⟨i, hi, hl⟩ := List.mem_flatMap.mp hl
        have hi := List.mem_range'_1.mp hi
        have hq : (p ++ [i]).length + d = n := by rw [len_s]; omega
        have := bc_ge (ln := ln) (C := C) hq (by rw [len_s, bMx_s]; omega) hl
        rw [len_s, bMx_s] at this
        omega)
      rw [e]
      rfl
    · rw [if_neg (fun h => c ((n_le (by omega) (by omega)).mp h)), pw_k rfl (by omega) (by omega)]
      obtain ⟨r, Y', v1, v2, v3⟩ := findsRest e11 hC hn hln hm h2 hr hd hg hT hok hmx (by omega : a ≤ bMx p p.length) (by omega)
      rw [pb2 v1, List.range'_succ, List.flatMap_cons]
      have eA : bFd ln C n most (bLv d (p ++ [a]) (Nat.max (bMx p p.length) (a + 1)) ++ (List.range' (a + 1) m).flatMap (fun i => bLv d (p ++ [i]) (Nat.max (bMx p p.length) (i + 1)))) = (bFd ln C n most (bLv d (p ++ [a]) (Nat.max (bMx p p.length) (a + 1)))).or (bFd ln C n most ((List.range' (a + 1) m).flatMap (fun i => bLv d (p ++ [i]) (Nat.max (bMx p p.length) (i + 1))))) := List.find?_append
      rw [eA]
      revert v3
      cases bFd ln C n most (bLv d (p ++ [a]) (Nat.max (bMx p p.length) (a + 1))) with
      | none =>
        intro v3
        rw [if_pos (show r = 0 from v3), pv, n_1, n_add]
        exact ih (a + 1) f Y' (by omega) (by omega) v2
      | some l =>
        intro v3
        rw [show r = 1 from v3.1, if_neg (by decide)]
        exact ⟨1, Y', rfl, v2, rfl, v3.2⟩
theorem findsBolts {ln : Nat → Nat} {C n most : Nat} {P1 P2 : zMm} (e7 : P1 7 0 = nI n) (e11 : P1 11 0 = nI C) (hC : C ≤ 999) (hn : n ≤ 7) (hln : ∀ i, i < 7 → ln i ≤ 299) (hm : most ≤ 7) (h2 : ∀ i, i < n → P2 0 i = nI (ln i)) : ∀ d e, d < e → bRec ln C n most P1 P2 d (F_X0_findsBolts e) := by
  intro d
  induction d with
  | zero =>
    intro e he q Y h1 hg hT hok hmx
    obtain ⟨e, rfl⟩ : ∃ n', e = n' + 1 := ⟨e - 1, by omega⟩
    rw [F_X0_findsBolts]
    unfold f_X0_findsBolts
    rw [e7, if_neg (by rw [n_lt (by omega) (by omega)]; omega)]
    have hq : q.length = n := by omega
    have eb : Nat.ble (bc ln C n q) most = true := by
      refine Nat.ble_eq_true_of_le ?_
      unfold bc
      rw [← hq, hok]
      exact hmx
    have ef : bFd ln C n most (bLv 0 q (bMx q q.length)) = some q := by
      unfold bFd
      rw [bLv]
      simp [List.find?, eb]
    rw [ef]
    exact ⟨1, Y, rfl, hT, rfl, fun j hj => hT.1 j (by omega)⟩
  | succ d ih =>
    intro e he q Y h1 hg hT hok hmx
    obtain ⟨e, rfl⟩ : ∃ n', e = n' + 1 := ⟨e - 1, by omega⟩
    rw [F_X0_findsBolts]
    unfold f_X0_findsBolts
    rw [e7, if_pos (by rw [n_lt (by omega) (by omega)]; omega), bLv, List.range_eq_range']
    exact fb_loop e11 hC hn hln hm h2 (ih e (by omega)) h1 hg hok hmx (bMx q q.length + 1) 0 100000 Y (by omega) (by omega) hT
theorem sb_step {ln : Nat → Nat} {C n b : Nat} {P1 P2 Y : zMm} (e7 : P1 7 0 = nI n) (e11 : P1 11 0 = nI C) (hC : C ≤ 999) (hn : n ≤ 7) (hln : ∀ i, i < 7 → ln i ≤ 299) (h2 : ∀ i, i < n → P2 0 i = nI (ln i)) (hb : b ≤ 7) (hY : ∀ k, k < 7 → Y 1 k = 0) : ∃ r Y', F_X0_findsBolts 9 (zs Y 2 (fun _ => nI b)) P1 P2 0 0 = some (r, Y') ∧ (∀ k, k < 7 → Y' 1 k = 0) ∧ bEnd n Y' r (bFd ln C n b (bLv n [] 0)) := by
  obtain ⟨r, Y', v1, v2, v3⟩ := findsBolts e7 e11 hC hn hln hb h2 n 9 (by omega) [] (zs Y 2 (fun _ => nI b)) (by show 0 + n = n; omega) (Nat.le_refl _) ⟨fun j hj => absurd hj (Nat.not_lt_zero _), hY, rfl⟩ rfl (Nat.zero_le _)
  exact ⟨r, Y', v1, v2.2.1, v3⟩
theorem sb_loop {ln : Nat → Nat} {C n : Nat} {P1 P2 : zMm} (e7 : P1 7 0 = nI n) (e11 : P1 11 0 = nI C) (hC : C ≤ 999) (hn : n ≤ 7) (hln : ∀ i, i < 7 → ln i ≤ 299) (h2 : ∀ i, i < n → P2 0 i = nI (ln i)) {B : Nat × List Nat} (hB : (B.1 = 99 ∧ ∀ b, b ≤ n → bFd ln C n b (bLv n [] 0) = none) ∨ (1 ≤ B.1 ∧ B.1 ≤ n ∧ (∀ b, b < B.1 → bFd ln C n b (bLv n [] 0) = none) ∧ bFd ln C n B.1 (bLv n [] 0) = some B.2)) : ∀ m b f Y, b + m = n + 1 → (b ≤ B.1) → m < f → (∀ k, k < 7 → Y 1 k = 0) → ∃ r Y', L_X0_search_2 P1 P2 f (nI b) Y = some (r, Y') ∧ (∀ k, k < 7 → Y' 1 k = 0) ∧ ((B.1 = 99 ∧ r = -4) ∨ (B.1 ≤ 7 ∧ r = nI B.1 ∧ ∀ j, j < n → Y' 0 j = nI (oG B.2 j))) := by
  intro m
  induction m with
  | zero =>
    intro b f Y h1 hb hf hY
    obtain ⟨f, rfl⟩ : ∃ n', f = n' + 1 := ⟨f - 1, by omega⟩
    rw [L_X0_search_2, e7, if_pos (by rw [n_lt (by omega) (by omega)]; omega)]
    rcases hB with ⟨hB, -⟩ | ⟨-, hB, -⟩
    · exact ⟨-4, Y, rfl, hY, Or.inl ⟨hB, rfl⟩⟩
    · omega
  | succ m ih =>
    intro b f Y h1 hb hf hY
    obtain ⟨f, rfl⟩ : ∃ n', f = n' + 1 := ⟨f - 1, by omega⟩
    obtain ⟨r, Y', v1, v2, v3⟩ := sb_step e7 e11 hC hn hln h2 (by omega : b ≤ 7) hY
    rw [L_X0_search_2, e7, if_neg (by rw [n_lt (by omega) (by omega)]; omega), pv, pb2 v1]
    have go : bFd ln C n b (bLv n [] 0) = none → b + 1 ≤ B.1 → ∃ r' Y'', (if r = 0 then zv (nI b + 1) (fun (x7 : Int32) => L_X0_search_2 P1 P2 f x7 Y') else some (nI b, Y')) = some (r', Y'') ∧ (∀ k, k < 7 → Y'' 1 k = 0) ∧ ((B.1 = 99 ∧ r' = -4) ∨ (B.1 ≤ 7 ∧ r' = nI B.1 ∧ ∀ j, j < n → Y'' 0 j = nI (oG B.2 j))) := fun e hb' => by
      rw [e] at v3
      rw [if_pos (show r = 0 from v3), pv, n_1, n_add]
      exact ih (b + 1) f Y' (by omega) hb' (by omega) v2
    rcases hB with ⟨hB, h⟩ | ⟨g1, g2, g3, g4⟩
    · exact go (h b (by omega)) (by omega)
    · rcases Nat.lt_or_ge b B.1 with q | q
      · exact go (g3 b q) q
      · have : b = B.1 := by omega
        subst this
        rw [g4] at v3
        rw [show r = 1 from v3.1, if_neg (by decide)]
        exact ⟨_, Y', rfl, v2, Or.inr ⟨by omega, rfl, v3.2⟩⟩
