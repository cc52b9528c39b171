def bV (n : Nat) (M : zMm) (x : Int32) (B : Nat × List Nat) : Prop := B.1 ≤ 99 ∧ x = nI B.1 ∧ (B.1 < 99 → ∀ j, j < n → M 18 j = nI (oG B.2 j))
theorem b52 {ln : Nat → Nat} {C n : Nat} (h1 : 1 ≤ n) (hn : n ≤ 7) (hC : C ≤ 999) (hln : ∀ i, i < 7 → ln i ≤ 299) (a : Int32) : ∀ g t l f x M B, bC n g (l :: t) = true → g < f → (∀ q, q ∈ l :: t → q.length = n ∧ ∀ i, i ∈ q → i < n) → M 6 0 = nI n → M 3 2 = nI C → (∀ i, i < n → M 19 i = nI (ln i)) → oRw n M l → bV n M x B → ∃ x' M', L_X9_bolts_52 a f x 1 M = some (x', 0, M') ∧ bV n M' x' ((l :: t).foldl (bU (bc ln C n)) B) ∧ ∀ j, j < 17 → M' j = M j := by
  intro g
  induction g with
  | zero => intro t l f x M B h; cases h
  | succ g ih =>
    intro t l f x M B h hf hok h6 h32 h19 hr hB
    obtain ⟨f, rfl⟩ : ∃ n', f = n' + 1 := ⟨f - 1, by omega⟩
    obtain ⟨f, rfl⟩ : ∃ n', f = n' + 1 := ⟨f - 1, by omega⟩
    have hl := hok l List.mem_cons_self
    have hb : ∀ k, k < n → oG l k < 7 := fun k hk => by
      have hk' : k < l.length := by have := hl.1; omega
      have := hl.2 _ (List.getElem_mem hk')
      rw [oG_m hk']
      omega
    have hq : bc ln C n l ≤ 99 := bc_le hb
    rw [bC] at h
    have hL : bLk n l t = true ∧ bC n g t = true := by
      cases c : bLk n l t with
      | false => rw [c] at h; cases h
      | true => rw [c] at h; exact ⟨rfl, h⟩
    obtain ⟨g', c1⟩ := manyM h6 hC hn h32 hr hb hln h19
    have hst : ∃ M2 x2, (if x ≤ nI (bc ln C n l) then some (zs M 20 g', x) else zb2 (L_X9_bolts_74 a (nI (bc ln C n l)) 1 (nI (bc ln C n l)) 100000 0 (zs M 20 g')) (fun (_ : Int32) (M_22 : zMm) => some (M_22, nI (bc ln C n l)))) = some (M2, x2) ∧ bV n M2 x2 (bU (bc ln C n) B l) ∧ (∀ j, j ≠ 18 → j ≠ 20 → M2 j = M j) := by
      rw [b74']
      obtain ⟨b1, b2, b3⟩ := hB
      rw [b2]
      by_cases c : B.1 ≤ bc ln C n l
      · rw [if_pos ((n_le (by omega) (by omega)).mpr c)]
        have eU : bU (bc ln C n) B l = B := if_neg (by omega)
        rw [eU]
        exact ⟨_, _, rfl, ⟨b1, rfl, b3⟩, fun j _ hj => zs_n _ _ hj⟩
      · rw [if_neg (fun h => c ((n_le (by omega) (by omega)).mp h)), pb2 rfl]
        have eU : bU (bc ln C n) B l = (bc ln C n l, l) := if_pos (by omega)
        rw [eU]
        refine ⟨_, _, rfl, ⟨hq, rfl, fun _ j hj => ?_⟩, fun j hj hj2 => by rw [zs_n _ _ hj, zs_n _ _ hj2]⟩
        show zfill (M 17) (M 18) 7 j = _
        rw [zfill_in _ _ (by omega)]
        exact hr j hj
    obtain ⟨M2, x2, d1, d2, d3⟩ := hst
    have r2 : oRw n M2 l := fun k hk => by rw [d3 17 (by decide) (by decide)]; exact hr k hk
    have h62 : M2 6 0 = nI n := by rw [d3 6 (by decide) (by decide)]; exact h6
    rw [L_X9_bolts_52, if_neg (by decide), pb2 c1, pb2 d1, List.foldl_cons]
    obtain ⟨r, M', e1, e2, e3⟩ := nextB h62 r2 h1 hn hl.1 hb
    rw [pb2 e1]
    rcases e3 with ⟨e3, e4⟩ | ⟨l', e3, e4, e5⟩
    · rw [e4, L_X9_bolts_52, if_pos rfl]
      have ht : t = [] := by
        have hL1 := hL.1
        unfold bLk at hL1
        rw [e3] at hL1
        cases t with
        | nil => rfl
        | cons q t => cases hL1
      subst ht
      refine ⟨_, _, rfl, ⟨d2.1, d2.2.1, fun hlt j hj => ?_⟩, fun j hj => by rw [e2 j (by omega), d3 j (by omega) (by omega)]⟩
      rw [e2 18 (by decide)]
      exact d2.2.2 hlt j hj
    · obtain ⟨q, t', ht, hq'⟩ : ∃ q t', t = q :: t' ∧ l' = q := by
        have hL1 := hL.1
        unfold bLk at hL1
        rw [e3] at hL1
        cases t with
        | nil => cases hL1
        | cons q t => exact ⟨q, t, rfl, oEq_e _ _ hL1⟩
      subst ht
      subst hq'
      rw [e4]
      obtain ⟨x', M3, f1, f2, f3⟩ := ih t' l' (f + 1) x2 M' (bU (bc ln C n) B l) hL.2 (by omega) (fun q hq => hok q (List.mem_cons_of_mem _ hq)) (by rw [e2 6 (by decide)]; exact h62) (by rw [e2 3 (by decide), d3 3 (by decide) (by decide)]; exact h32) (fun i hi => by rw [e2 19 (by decide), d3 19 (by decide) (by decide)]; exact h19 i hi) e5 ⟨d2.1, d2.2.1, fun hlt j hj => by rw [e2 18 (by decide)]; exact d2.2.2 hlt j hj⟩
      exact ⟨x', M3, f1, f2, fun j hj => by rw [f3 j hj, e2 j (by omega), d3 j (by omega) (by omega)]⟩
theorem b28 (a : Int32) {M : zMm} : ∀ m k f, k + m = 7 → m < f → L_X9_bolts_28 a f (nI k) (zs M 17 (zfill (fun _ => 0) (M 17) k)) = some (nI 7, zs M 17 (zfill (fun _ => 0) (M 17) 7)) := by
  intro m
  induction m with
  | zero =>
    intro k f h1 h2
    obtain ⟨f, rfl⟩ : ∃ n', f = n' + 1 := ⟨f - 1, by omega⟩
    rw [L_X9_bolts_28, if_pos (by rw [n_7, n_le (by omega) (by omega)]; omega), show k = 7 by omega]
  | succ m ih =>
    intro k f h1 h2
    obtain ⟨f, rfl⟩ : ∃ n', f = n' + 1 := ⟨f - 1, by omega⟩
    have s : upd (zfill (fun _ => 0) (M 17) k) k 0 = zfill (fun _ => 0) (M 17) (k + 1) := zfill_s (fun _ => 0) (M 17) k
    rw [L_X9_bolts_28, if_neg (by rw [n_7, n_le (by omega) (by omega)]; omega), pw_k rfl (by omega) (by omega), zs_s, zs_zs, pv, n_1, n_add, s]
    exact ih (k + 1) f (by omega) (by omega)
theorem boltM {M : zMm} {ln : Nat → Nat} {C n : Nat} (h1 : 1 ≤ n) (hn : n ≤ 7) (hC : C ≤ 999) (hln : ∀ i, i < 7 → ln i ≤ 299) (h6 : M 6 0 = nI n) (h32 : M 3 2 = nI C) (h19 : ∀ i, i < n → M 19 i = nI (ln i)) (a : Int32) : ∃ x M1 M2, L_X9_bolts_28 a 100000 0 M = some (nI 7, M1) ∧ L_X9_bolts_52 a 100000 99 1 M1 = some (x, 0, M2) ∧ bV n M2 x ((bLv n [] 0).foldl (bU (bc ln C n)) (99, [])) ∧ ∀ j, j < 17 → M2 j = M j := by
  have e := b28 a (M := M) 7 0 100000 (by omega) (by omega)
  rw [zfill_0, zs_self] at e
  obtain ⟨t, t1, t2⟩ := b_list h1 hn
  have hok : ∀ q, q ∈ List.replicate n 0 :: t → q.length = n ∧ ∀ i, i ∈ q → i < n := fun q hq => by
    rw [← t1] at hq
    have := bLv_ok n [] 0 (Nat.le_refl _) (fun i hi => absurd hi List.not_mem_nil) q hq
    rw [List.length_nil, Nat.zero_add] at this
    exact this
  obtain ⟨x, M2, f1, f2, f3⟩ := b52 h1 hn hC hln a 1000 t (List.replicate n 0) 100000 99 (zs M 17 (zfill (fun _ => 0) (M 17) 7)) (99, []) t2 (by omega) hok h6 h32 h19 (fun k hk => by
    show zfill (fun _ => 0) (M 17) 7 k = _
    rw [zfill_in _ _ (by omega)]
    unfold oG
    rw [List.getD_eq_getElem?_getD, List.getElem?_replicate, if_pos hk]
    rfl) ⟨Nat.le_refl _, rfl, fun h => absurd h (Nat.lt_irrefl _)⟩
  rw [← t1] at f2
  exact ⟨x, _, M2, e, f1, f2, fun j hj => by rw [f3 j hj, zs_n _ _ (by omega)]⟩
theorem boltB {ln : Nat → Nat} {C n : Nat} (h1 : 1 ≤ n) (hn : n ≤ 7) : (((bLv n [] 0).foldl (bU (bc ln C n)) (99, [])).1 = 99 ∧ ∀ b, b ≤ n → bFd ln C n b (bLv n [] 0) = none) ∨ (1 ≤ ((bLv n [] 0).foldl (bU (bc ln C n)) (99, [])).1 ∧ ((bLv n [] 0).foldl (bU (bc ln C n)) (99, [])).1 ≤ n ∧ (∀ b, b < ((bLv n [] 0).foldl (bU (bc ln C n)) (99, [])).1 → bFd ln C n b (bLv n [] 0) = none) ∧ bFd ln C n ((bLv n [] 0).foldl (bU (bc ln C n)) (99, [])).1 (bLv n [] 0) = some ((bLv n [] 0).foldl (bU (bc ln C n)) (99, [])).2) := by
  have h := bJ_n (f := bc ln C n) (bLv n [] 0) [] (99, []) (Or.inl ⟨rfl, fun l hl => absurd hl List.not_mem_nil⟩)
  rw [List.nil_append] at h
  revert h
  generalize (bLv n [] 0).foldl (bU (bc ln C n)) (99, []) = B
  intro h
  rcases h with ⟨g1, g2⟩ | ⟨g1, g2, g3⟩
  · exact Or.inl ⟨g1, fun b hb => find_no (fun l hl => by have := g2 l hl; omega)⟩
  · have hm := List.mem_of_find?_eq_some g3
    have hp := List.find?_some g3
    have hp := Nat.le_of_ble_eq_true hp
    have hx := bLv_ok n [] 0 (Nat.le_refl _) (fun i hi => absurd hi List.not_mem_nil) _ hm
    rw [List.length_nil, Nat.zero_add] at hx
    have hg : ∀ j, j < n → oG B.2 j < n := fun j hj => by
      have hj' : j < B.2.length := by omega
      rw [oG_m hj']
      exact hx.2 _ (List.getElem_mem hj')
    have hle := bMx_le hg
    have hge := g2 _ hm
    have e : bc ln C n B.2 = bMx B.2 n := by
      cases c : bOK ln C B.2 n with
      | true => unfold bc; rw [c]; rfl
      | false =>
        have : bc ln C n B.2 = 99 := by unfold bc; rw [c]; rfl
        omega
    have h0 : 1 ≤ bMx B.2 n := by
      obtain ⟨k, rfl⟩ : ∃ k, n = k + 1 := ⟨n - 1, by omega⟩
      rw [bMx]
      omega
    exact Or.inr ⟨by omega, by omega, fun b hb => find_no (fun l hl => by have := g2 l hl; omega), g3⟩
theorem q_bolts {X M : zMm} (h : Inv X M) (a : Int32) : ∃ r X2 M2, f_X8_bolts X a = some (r, X2) ∧ f_X9_bolts M a = some (r, M2) ∧ Inv X2 M2 := by
  obtain ⟨pl, t, hw, hn, hpx, hpm, h5, ⟨o, hox, hlen, hfm⟩, h7, h8, h9, h10, h11, h12⟩ := id h
  have hb := hw.1
  have hom : iOrd (M 10) o := ⟨fun k hk => ⟨(hfm k hk).1.trans (hox.1 k hk).1, (hox.1 k hk).2⟩, hox.2⟩
  have eX := measX hpx hw hox
  have eM := measM hpm hw hom
  generalize hX1 : zs X 31 (zfill (zLEN pl o (X 4)) (X 31) (pl 7 0)) = X1 at eX
  generalize hM1 : zs M 19 (zfill (zLEN pl o (zLM M)) (M 19) (pl 7 0)) = M1 at eM
  have hI : Inv X1 M1 := by
    rw [← hX1, ← hM1]
    exact inv_fr h (uX_zs (fun _ _ => rfl) rfl) (uM_zs (fun _ _ => rfl) rfl)
  have lx : ∀ i, i < pl 7 0 → X1 31 i = zLEN pl o (X 4) i := fun i hi => by rw [← hX1, zs_s, zfill_in _ _ hi]
  have lm : ∀ i, i < pl 7 0 → M1 19 i = zLEN pl o (X 4) i := fun i hi => by
    rw [← hM1, zs_s, zfill_in _ _ hi]
    exact ft_len hw (fun k hk => (hfm k hk).2) i hi
  have hpx1 : iPlX (fun j => X1 (35 + j)) pl := by rw [← hX1]; exact hpx
  have hpm1 : iPlM M1 pl := by rw [← hM1]; exact hpm
  have hbo : ∀ k, k < 7 → X1 29 k = 0 := by rw [← hX1]; exact h12
  have hln : ∀ i, i < 7 → (fun i => if i < pl 7 0 then (zLEN pl o (X 4) i).toInt.toNat else 0) i ≤ 299 := fun i _ => by
    show (if i < pl 7 0 then (zLEN pl o (X 4) i).toInt.toNat else 0) ≤ 299
    split
    · next q => have := hlen i q; omega
    · omega
  have len : ∀ i, i < pl 7 0 → zLEN pl o (X 4) i = nI ((fun i => if i < pl 7 0 then (zLEN pl o (X 4) i).toInt.toNat else 0) i) := fun i hi => by
    show _ = nI (if i < pl 7 0 then (zLEN pl o (X 4) i).toInt.toNat else 0)
    rw [if_pos hi]
    have := hlen i hi
    exact eqN (by omega)
  generalize hL : (fun i => if i < pl 7 0 then (zLEN pl o (X 4) i).toInt.toNat else 0) = ln at hln len
  obtain ⟨x, M2, M3, m1, m2, m3, m4⟩ := boltM (M := M1) (ln := ln) (C := pl 11 0) hn (by omega) (by omega) hln hpm1.1.2.1 hpm1.1.2.2.2.2.2 (fun i hi => (lm i hi).trans (len i hi)) a
  obtain ⟨r, Y, s1, s2, s3⟩ := sb_loop (P1 := fun j => X1 (35 + j)) (P2 := fun j => X1 (31 + j)) (n := pl 7 0) (C := pl 11 0) hpx1.1.2.1 hpx1.1.2.2.2.2.2 (by omega) (by omega) hln (fun i hi => (lx i hi).trans (len i hi)) (boltB (ln := ln) (C := pl 11 0) hn (by omega)) (pl 7 0) 1 100000 (fun j => X1 (28 + j)) (by omega) (by rcases boltB (ln := ln) (C := pl 11 0) hn (by omega : pl 7 0 ≤ 7) with q | q <;> omega) (by omega) hbo
  have s1 : f_X0_search (fun j => X1 (28 + j)) (fun j => X1 (35 + j)) (fun j => X1 (31 + j)) = some (r, Y) := s1
  revert m3 s3
  generalize (bLv (pl 7 0) [] 0).foldl (bU (bc ln (pl 11 0) (pl 7 0))) (99, []) = B
  intro m3 s3
  have z (i : Nat) (hi : i < 3) : zp X1 28 3 Y (28 + i) = Y i := zp_in X1 Y hi
  have zo' : ∀ j, (j < 28 ∨ 31 ≤ j) → zp X1 28 3 Y j = X1 j := fun j hj => by
    unfold zp
    rcases hj with q | q
    · have : Nat.ble 28 j = false := by
        cases c : Nat.ble 28 j with
        | false => rfl
        | true => have := Nat.le_of_ble_eq_true c; omega
      simp [this]
    · have : Nat.blt j (28 + 3) = false := by
        cases c : Nat.blt j (28 + 3) with
        | false => rfl
        | true => have := Nat.le_of_ble_eq_true c; omega
      simp [this]
  have hI2 : Inv (zp X1 28 3 Y) M3 := by
    have hI' : Inv (zs (zp X1 28 3 Y) 29 (X1 29)) M3 := inv_fr hI (fun j hj => by
      by_cases c : j = 29
      · subst c; rw [zs_s]
      · rw [zs_n _ _ c]
        refine zo' j ?_
        by_cases c2 : j = 28
        · subst c2; cases hj
        · by_cases c3 : j = 30
          · subst c3; cases hj
          · omega) (fun j hj => by
      refine m4 j ?_
      rcases Nat.lt_or_ge j 17 with q | q
      · exact q
      · exfalso
        have : j ∈ [0, 1, 3, 4, 5, 6, 7, 8, 9, 10, 11, 12, 13, 14, 15, 16] := List.contains_iff_mem.mp hj
        simp at this
        omega)
    obtain ⟨pl', t', k1, k2, k3, k4, k5, k6, k7, k8, k9, k10, k11, k12⟩ := hI'
    exact ⟨pl', t', k1, k2, k3, k4, k5, k6, k7, k8, k9, k10, k11, fun k hk => by
      rw [show zp X1 28 3 Y 29 = Y 1 from z 1 (by decide)]
      exact s2 k hk⟩
  have n99 : ∀ q : Nat, q ≤ 7 → ¬ nI q = 99 := fun q hq e => by
    have := (n_eq (a := q) (b := 99) (by omega) (by omega)).mp e
    omega
  unfold f_X8_bolts f_X9_bolts
  rw [hpm.1.2.1]
  by_cases c : a = -1
  · rw [if_pos c, pb1 (in_y (tL a) (lo := -1) rfl (tL1 (by omega)) (by rw [c, mm1]; omega) (by rw [c, mm1]; omega)), if_neg i10, pb1 eX, pb1 eM, pb2 s1, pv, if_pos c, pb2 m1, pb3 m2]
    refine ⟨r, _, M3, rfl, ?_, hI2⟩
    rcases s3 with ⟨g1, g2⟩ | ⟨g1, g2, g3⟩
    · rw [if_pos (by rw [m3.2.1, g1]; rfl), g2]
    · rw [m3.2.1, if_neg (n99 _ g1), if_neg (by rw [c]; decide), g2]
  · rw [if_neg c]
    rcases ix a (n := pl 7 0) (by omega) with ⟨i, hi, rfl⟩ | hi
    · rw [pb1 (hasPartX hpx hw hi), if_neg i10, pb1 eX, pb2 s1, pv, if_neg c, pb1 (in_y (tL _) (lo := -1) rfl (tL1 (by omega)) (by rw [nT (by omega)]; omega) (by rw [nT (by omega)]; omega)), if_neg i10, pb1 eM, pb2 m1, pb3 m2]
      rcases s3 with ⟨g1, g2⟩ | ⟨g1, g2, g3⟩
      · rw [if_pos g2, if_pos (by rw [m3.2.1, g1]; rfl), g2]
        exact ⟨_, _, _, rfl, rfl, hI2⟩
      · rw [if_neg (by rw [g2, eqT, nT (by omega), show (-4 : Int32).toInt = -4 from rfl]; omega), m3.2.1, if_neg (n99 _ g1), if_pos (nI_pos' (by omega)), pl_k rfl (by omega) (by omega), pl_k rfl (by omega) (by omega)]
        refine ⟨_, _, _, rfl, ?_, hI2⟩
        rw [show zp X1 28 3 Y 28 = Y 0 from z 0 (by decide), g3 i hi, m3.2.2 (by omega) i hi]
    · have hni := not_in hi
      have : ¬ a.toInt = -1 := fun e => c (eqT.mpr e)
      rw [pb1 (hasPartX_no hpx hw hi), if_pos rfl, pb1 (in_n (tL a) (lo := -1) rfl (tL1 (by omega)) (by omega)), if_pos rfl]
      exact ⟨_, _, _, rfl, rfl, h⟩
