def oV (n : Nat) (M : zMm) (x : Int32) (B : Nat × List Nat) : Prop := B.1 < 2991 ∧ x = nI B.1 ∧ ∀ j, j < n → M 18 j = nI (oG B.2 j)
theorem o47 {pl : zN} (hw : iWF pl) (h1 : 1 ≤ pl 7 0) (a : Int32) : ∀ g t l f x M B, oC (pl 7 0) g (l :: t) = true → g < f → (∀ q, q ∈ l :: t → oOK (pl 7 0) q) → iPlM M pl → oRw (pl 7 0) M l → ((B.1 = 2991 ∧ x = -1) ∨ oV (pl 7 0) M x B) → ∃ x' M', L_X9_order_47 a f x 1 M = some (x', 0, M') ∧ oV (pl 7 0) M' x' ((l :: t).foldl (oU pl) B) ∧ ∀ j, j < 17 → M' j = M j := by
  have hb := hw.1
  intro g
  induction g with
  | zero => intro t l f x M B h; cases h
  | succ g ih =>
    intro t l f x M B h hf hok hp hr hB
    obtain ⟨f, rfl⟩ : ∃ n', f = n' + 1 := ⟨f - 1, by omega⟩
    obtain ⟨f, rfl⟩ : ∃ n', f = n' + 1 := ⟨f - 1, by omega⟩
    have hl := hok l List.mem_cons_self
    have hq := oP_b hw l
    rw [oC] at h
    have hL : oLk (pl 7 0) l t = true ∧ oC (pl 7 0) g t = true := by
      cases c : oLk (pl 7 0) l t with
      | false => rw [c] at h; cases h
      | true => rw [c] at h; exact ⟨rfl, h⟩
    obtain ⟨g', c1, c2⟩ := o54 hp hw hl hr a x 1 (pl 7 0) 0 100000 (M 19) (by omega) (by omega) (fun j hj => absurd hj (Nat.not_lt_zero _))
    rw [zs_self] at c1
    have c1 : L_X9_order_54 a x 1 100000 0 M = _ := c1
    have c3 : f_X9_gaps (zs M 19 g') = some (nI (oP pl l)) := gapsM_o (M := zs M 19 g') hp hw hl c2
    have hst : ∃ M2 x2, (if x < 0 then zb2 (L_X9_order_134 a (nI (oP pl l)) 1 (nI (oP pl l)) 100000 0 (zs M 19 g')) (fun (_ : Int32) (M_22 : zMm) => some (M_22, nI (oP pl l))) else if x ≤ nI (oP pl l) then some (zs M 19 g', x) else zb2 (L_X9_order_134 a (nI (oP pl l)) 1 (nI (oP pl l)) 100000 0 (zs M 19 g')) (fun (_ : Int32) (M_26 : zMm) => some (M_26, nI (oP pl l)))) = some (M2, x2) ∧ oV (pl 7 0) M2 x2 (oU pl B l) ∧ (∀ j, j < 18 → M2 j = M j) := by
      have take : oV (pl 7 0) (zs (zs M 19 g') 18 (zfill ((zs M 19 g') 17) ((zs M 19 g') 18) 7)) (nI (oP pl l)) (oP pl l, l) := by
        refine ⟨by show oP pl l < 2991; omega, rfl, fun j hj => ?_⟩
        show zfill (M 17) (M 18) 7 j = _
        rw [zfill_in _ _ (by omega)]
        exact hr j hj
      have keep : ∀ j, j < 18 → (zs (zs M 19 g') 18 (zfill ((zs M 19 g') 17) ((zs M 19 g') 18) 7)) j = M j := fun j hj => by
        rw [zs_n _ _ (by omega), zs_n _ _ (by omega)]
      rw [o134']
      rcases hB with ⟨b1, b2⟩ | ⟨b1, b2, b3⟩
      · rw [b2, if_pos (by decide), pb2 rfl]
        have eU : oU pl B l = (oP pl l, l) := if_pos (by omega)
        rw [eU]
        exact ⟨_, _, rfl, take, keep⟩
      · rw [b2, if_neg (nI_pos (by omega))]
        by_cases c : B.1 ≤ oP pl l
        · rw [if_pos ((n_le (by omega) (by omega)).mpr c)]
          have eU : oU pl B l = B := if_neg (by omega)
          rw [eU]
          refine ⟨_, _, rfl, ⟨b1, rfl, b3⟩, fun j hj => by rw [zs_n _ _ (by omega)]⟩
        · rw [if_neg (fun h => c ((n_le (by omega) (by omega)).mp h)), pb2 rfl]
          have eU : oU pl B l = (oP pl l, l) := if_pos (by omega)
          rw [eU]
          exact ⟨_, _, rfl, take, keep⟩
    obtain ⟨M2, x2, d1, d2, d3⟩ := hst
    have p2 : iPlM M2 pl := iPlM_fr hp (fun j hj => d3 j (by omega))
    have r2 : oRw (pl 7 0) M2 l := fun k hk => by rw [d3 17 (by omega)]; exact hr k hk
    rw [L_X9_order_47, if_neg (by decide), pb2 c1, pb1 c3, pb2 d1, List.foldl_cons]
    rcases nextM p2.1.2.1 r2 h1 (by omega) hl.1 (fun k hk => by have := (oOK_g hl hk).1; omega) with ⟨e1, e2⟩ | ⟨l', M', e1, e2, e3, e4⟩
    · rw [pb2 e2, L_X9_order_47, if_pos rfl]
      have ht : t = [] := by
        have hL1 := hL.1
        unfold oLk at hL1
        rw [e1] at hL1
        cases t with
        | nil => rfl
        | cons q t => cases hL1
      subst ht
      exact ⟨_, _, rfl, d2, fun j hj => d3 j (by omega)⟩
    · rw [pb2 e2]
      obtain ⟨q, t', ht, hq'⟩ : ∃ q t', t = q :: t' ∧ l' = q := by
        have hL1 := hL.1
        unfold oLk at hL1
        rw [e1] at hL1
        cases t with
        | nil => cases hL1
        | cons q t => exact ⟨q, t, rfl, oEq_e _ _ hL1⟩
      subst ht
      subst hq'
      obtain ⟨x', M3, f1, f2, f3⟩ := ih t' l' (f + 1) x2 M' (oU pl B l) hL.2 (by omega) (fun q hq => hok q (List.mem_cons_of_mem _ hq)) (iPlM_fr p2 (fun j hj => e4 j (by omega))) e3 (Or.inr ⟨d2.1, d2.2.1, fun j hj => by rw [e4 18 (by decide)]; exact d2.2.2 j hj⟩)
      exact ⟨x', M3, f1, f2, fun j hj => by rw [f3 j hj, e4 j (by omega), d3 j (by omega)]⟩
theorem oLv_ok {n : Nat} : ∀ d p, p.Nodup → (∀ i, i ∈ p → i < n) → ∀ l, l ∈ oLv n d p → l.length = p.length + d ∧ l.Nodup ∧ ∀ i, i ∈ l → i < n
  | 0, p, h1, h2, l, hl => by
    rw [oLv] at hl
    rw [List.mem_singleton.mp hl]
    exact ⟨rfl, h1, h2⟩
  | d + 1, p, h1, h2, l, hl => by
    rw [oLv] at hl
    obtain ⟨i, hi, hm⟩ := List.mem_flatMap.mp hl
    have hi := List.mem_range.mp hi
    cases c : p.contains i with
    | true => rw [c] at hm; cases hm
    | false =>
      rw [c] at hm
      have hn : ¬ i ∈ p := by intro h3; rw [← List.contains_iff_mem, c] at h3; cases h3
      obtain ⟨a1, a2, a3⟩ := oLv_ok d (p ++ [i]) (by
        rw [List.nodup_append]
        refine ⟨h1, List.nodup_cons.mpr ⟨List.not_mem_nil, List.nodup_nil⟩, fun a ha b hb e => ?_⟩
        rw [List.mem_singleton.mp hb] at e
        exact hn (e ▸ ha)) (fun j hj => by
        rcases List.mem_append.mp hj with q | q
        · exact h2 j q
        · rw [List.mem_singleton.mp q]; exact hi) l hm
      rw [List.length_append] at a1
      refine ⟨?_, a2, a3⟩
      rw [a1]
      show p.length + 1 + d = _
      omega
theorem oC_up {n : Nat} : ∀ f g L, oC n f L = true → f ≤ g → oC n g L = true
  | _, _, [], _, _ => by cases ‹Nat› <;> simp [oC]
  | 0, _, _ :: _, h, _ => by cases h
  | f + 1, 0, _ :: _, _, h => absurd h (Nat.not_succ_le_zero _)
  | f + 1, g + 1, l :: t, h, hg => by
    rw [oC] at h ⊢
    cases c : oLk n l t with
    | false => rw [c] at h; cases h
    | true =>
      rw [c] at h
      exact oC_up f g t h (by omega)
theorem o_ex {n f : Nat} {p : List Nat} (h : oC n f (oLv n n []) = true) (hf : f ≤ 5040) (hh : (oLv n n []).head? = some p) : ∃ t, oLv n n [] = p :: t ∧ oC n 5040 (p :: t) = true := by
  cases c : oLv n n [] with
  | nil => rw [c] at hh; cases hh
  | cons q t =>
    rw [c] at hh
    have e : q = p := Option.some.inj hh
    subst e
    exact ⟨t, rfl, by rw [← c]; exact oC_up _ _ _ h hf⟩
theorem o_list {n : Nat} (h1 : 1 ≤ n) (h7 : n ≤ 7) : ∃ t, oLv n n [] = List.range n :: t ∧ oC n 5040 (List.range n :: t) = true := by
  rcases (show n = 1 ∨ n = 2 ∨ n = 3 ∨ n = 4 ∨ n = 5 ∨ n = 6 ∨ n = 7 by omega) with rfl | rfl | rfl | rfl | rfl | rfl | rfl
  · exact o_ex oC_1 (by decide) (by decide +kernel)
  · exact o_ex oC_2 (by decide) (by decide +kernel)
  · exact o_ex oC_3 (by decide) (by decide +kernel)
  · exact o_ex oC_4 (by decide) (by decide +kernel)
  · exact o_ex oC_5 (by decide) (by decide +kernel)
  · exact o_ex oC_6 (by decide) (by decide +kernel)
  · exact o_ex oC_7 (by decide) (by decide +kernel)
theorem o24 (a : Int32) {M : zMm} : ∀ m k f, k + m = 7 → m < f → L_X9_order_24 a f (nI k) (zs M 17 (zfill nI (M 17) k)) = some (nI 7, zs M 17 (zfill nI (M 17) 7)) := by
  intro m
  induction m with
  | zero =>
    intro k f h1 h2
    obtain ⟨f, rfl⟩ : ∃ n', f = n' + 1 := ⟨f - 1, by omega⟩
    rw [L_X9_order_24, if_pos (by rw [n_7, n_le (by omega) (by omega)]; omega), show k = 7 by omega]
  | succ m ih =>
    intro k f h1 h2
    obtain ⟨f, rfl⟩ : ∃ n', f = n' + 1 := ⟨f - 1, by omega⟩
    rw [L_X9_order_24, if_neg (by rw [n_7, n_le (by omega) (by omega)]; omega), pw_k rfl (by omega) (by omega), zs_s, zs_zs, pv, n_1, n_add, zfill_s]
    exact ih (k + 1) f (by omega) (by omega)
theorem orderM {M : zMm} {pl : zN} (hp : iPlM M pl) (hw : iWF pl) (h1 : 1 ≤ pl 7 0) (a : Int32) : ∃ x M1 M2, L_X9_order_24 a 100000 0 M = some (nI 7, M1) ∧ L_X9_order_47 a 100000 (-1) 1 M1 = some (x, 0, M2) ∧ oV (pl 7 0) M2 x (oBest pl) ∧ ∀ j, j < 17 → M2 j = M j := by
  have hb := hw.1
  have e := o24 a (M := M) 7 0 100000 (by omega) (by omega)
  rw [zfill_0, zs_self] at e
  obtain ⟨t, t1, t2⟩ := o_list h1 (by omega : pl 7 0 ≤ 7)
  have hok : ∀ q, q ∈ List.range (pl 7 0) :: t → oOK (pl 7 0) q := fun q hq => by
    rw [← t1] at hq
    have := oLv_ok (pl 7 0) [] List.nodup_nil (fun i hi => absurd hi List.not_mem_nil) q hq
    exact ⟨this.1.trans (Nat.zero_add _), this.2⟩
  obtain ⟨x, M2, f1, f2, f3⟩ := o47 hw h1 a 5040 t (List.range (pl 7 0)) 100000 (-1) (zs M 17 (zfill nI (M 17) 7)) (2991, []) t2 (by omega) hok hp (fun k hk => by
    show zfill nI (M 17) 7 k = _
    rw [zfill_in _ _ (by omega)]
    unfold oG
    rw [List.getD_eq_getElem?_getD, List.getElem?_range hk]
    rfl) (Or.inl ⟨rfl, rfl⟩)
  rw [← t1] at f2
  exact ⟨x, _, M2, e, f1, f2, fun j hj => by rw [f3 j hj, zs_n _ _ (by omega)]⟩
theorem orderX {X : zMm} {pl : zN} (hp : iPlX (fun j => X (35 + j)) pl) (hw : iWF pl) (h11 : iOr X pl) (hlt : (oBest pl).1 < 2991) : ∃ X', (if X 23 0 = 0 then zb1 (f_X3_search (fun j => X (22 + j)) (fun j => X (35 + j))) (fun (M_6 : zMm) => zv (zp X 22 6 M_6) (fun (M_8 : zMm) => some M_8)) else some X) = some X' ∧ X' 24 0 = nI (oBest pl).1 ∧ (∀ i, i < pl 7 0 → X' 22 i = nI (oG (oBest pl).2 i)) ∧ (∀ j, (j < 22 ∨ 28 ≤ j) → X' j = X j) ∧ iOr X' pl := by
  have hb := hw.1
  rcases h11 with h | ⟨h, Y, P, Y1, a1, a2, a3, a4⟩
  · obtain ⟨Y1, s1, s2, s3⟩ := searchX (Y := fun j => X (22 + j)) hp hw
    rw [if_pos h, pb1 s1, pv]
    have z (i : Nat) (hi : i < 6) : zp X 22 6 Y1 (22 + i) = Y1 i := zp_in X Y1 hi
    refine ⟨_, rfl, ?_, fun i hi => ?_, fun j hj => ?_, Or.inr ⟨?_, fun j => X (22 + j), fun j => X (35 + j), Y1, hp, s1, ?_, fun i _ => ?_⟩⟩
    · rw [show zp X 22 6 Y1 24 = Y1 2 from z 2 (by decide)]; exact s3.2.1
    · rw [show zp X 22 6 Y1 22 = Y1 0 from z 0 (by decide)]; exact s3.2.2 i hi (by omega)
    · unfold zp
      rcases hj with q | q
      · have : Nat.ble 22 j = false := by
          cases c : Nat.ble 22 j with
          | false => rfl
          | true => have := Nat.le_of_ble_eq_true c; omega
        simp [this]
      · have : Nat.blt j (22 + 6) = false := by
          cases c : Nat.blt j (22 + 6) with
          | false => rfl
          | true => have := Nat.le_of_ble_eq_true c; omega
        simp [this]
    · rw [show zp X 22 6 Y1 23 = Y1 1 from z 1 (by decide)]; exact s2
    · rw [show zp X 22 6 Y1 24 = Y1 2 from z 2 (by decide)]
    · rw [show zp X 22 6 Y1 22 = Y1 0 from z 0 (by decide)]
  · obtain ⟨Y1', s1, s2, s3⟩ := searchX (Y := Y) a1 hw
    have e : Y1' = Y1 := Option.some.inj (s1.symm.trans a2)
    subst e
    rw [if_neg (by rw [h]; decide)]
    exact ⟨X, rfl, a3.trans s3.2.1, fun i hi => (a4 i (by omega)).trans (s3.2.2 i hi (by omega)), fun _ _ => rfl, Or.inr ⟨h, Y, P, Y1', a1, a2, a3, a4⟩⟩
theorem inv_or {X M X2 M2 : zMm} {pl : zN} {t : Nat} (h1 : iWF pl) (h2 : 1 ≤ pl 7 0) (h3 : iPlX (fun j => X (35 + j)) pl) (h4 : iPlM M pl) (h5 : iTxt X M t) (h6 : iFt pl (X 3) (X 4) (M 10)) (h7 : ∃ dn nx, iUn X M pl dn nx) (h8 : ∃ kn kx, iKp X M pl kn kx) (h9 : ∃ sn, iSe X M sn) (h10 : ∃ pn ps, iPi X M pl pn ps) (h12 : iBo X) (hX : ∀ j, (j < 22 ∨ 28 ≤ j) → X2 j = X j) (hM : ∀ j, j < 17 → M2 j = M j) (h11 : iOr X2 pl) : Inv X2 M2 := by
  obtain ⟨dn, nx, h7⟩ := h7
  obtain ⟨kn, kx, h8⟩ := h8
  obtain ⟨sn, h9⟩ := h9
  obtain ⟨pn, ps, h10⟩ := h10
  refine ⟨pl, t, h1, h2, ?_, iPlM_fr h4 hM, ?_, ?_, ⟨dn, nx, ?_⟩, ⟨kn, kx, ?_⟩, ⟨sn, ?_⟩, ⟨pn, ps, ?_⟩, h11, ?_⟩
  · have e : (fun j => X2 (35 + j)) = (fun j => X (35 + j)) := funext fun j => hX (35 + j) (by omega)
    rw [e]
    exact h3
  · unfold iTxt at h5 ⊢
    simp only [hX 0 (by decide), hX 2 (by decide), hM 0 (by decide), hM 1 (by decide)]
    exact h5
  · rw [hX 3 (by decide), hX 4 (by decide), hM 10 (by decide)]
    exact h6
  · unfold iUn at h7 ⊢
    simp only [hX 5 (by decide), hX 6 (by decide), hX 7 (by decide), hX 8 (by decide), hX 9 (by decide), hM 12 (by decide), hM 10 (by decide)]
    exact h7
  · unfold iKp at h8 ⊢
    simp only [hX 10 (by decide), hX 11 (by decide), hX 12 (by decide), hX 13 (by decide), hX 14 (by decide), hM 11 (by decide), hM 10 (by decide)]
    exact h8
  · unfold iSe at h9 ⊢
    simp only [hX 15 (by decide), hX 16 (by decide), hX 17 (by decide), hX 18 (by decide), hM 13 (by decide), hM 14 (by decide)]
    exact h9
  · unfold iPi at h10 ⊢
    simp only [hX 19 (by decide), hX 20 (by decide), hX 21 (by decide), hM 15 (by decide), hM 16 (by decide)]
    exact h10
  · unfold iBo at h12 ⊢
    simp only [hX 29 (by decide)]
    exact h12
theorem mm1 : (-1 : Int32).toInt = -1 := rfl
theorem q_order {X M : zMm} (h : Inv X M) (a : Int32) : ∃ r X2 M2, f_X8_order X a = some (r, X2) ∧ f_X9_order M a = some (r, M2) ∧ Inv X2 M2 := by
  obtain ⟨pl, t, hw, hn, hpx, hpm, h5, h6, h7, h8, h9, h10, h11, h12⟩ := id h
  have hb := hw.1
  obtain ⟨x, M1, M2, m1, m2, m3, m4⟩ := orderM hpm hw hn a
  obtain ⟨X', x1, x2, x3, x4, x5⟩ := orderX hpx hw h11 m3.1
  have hI : Inv X' M2 := inv_or hw hn hpx hpm h5 h6 h7 h8 h9 h10 h12 x4 m4 x5
  unfold f_X8_order f_X9_order
  rw [hpm.1.2.1]
  by_cases c : a = -1
  · rw [if_pos c, pb1 (in_y (tL a) (lo := -1) rfl (tL1 (by omega)) (by rw [c, mm1]; omega) (by rw [c, mm1]; omega)), if_neg i10, pb1 x1, if_pos c, pb2 m1, pb3 m2, if_neg (by rw [c]; decide), x2, m3.2.1]
    exact ⟨_, _, _, rfl, rfl, hI⟩
  · rw [if_neg c]
    rcases ix a (n := pl 7 0) (by omega) with ⟨i, hi, rfl⟩ | hi
    · rw [pb1 (hasPartX hpx hw hi), if_neg i10, pb1 x1, if_neg c, pl_k rfl (by omega) (by omega), pb1 (in_y (tL _) (lo := -1) rfl (tL1 (by omega)) (by rw [nT (by omega)]; omega) (by rw [nT (by omega)]; omega)), if_neg i10, pb2 m1, pb3 m2, if_pos (nI_pos' (by omega)), pl_k rfl (by omega) (by omega), x3 i hi, m3.2.2 i hi]
      exact ⟨_, _, _, rfl, rfl, hI⟩
    · have hni := not_in hi
      have : ¬ a.toInt = -1 := fun e => c (eqT.mpr e)
      rw [pb1 (hasPartX_no hpx hw hi), if_pos rfl, pb1 (in_n (tL a) (lo := -1) rfl (tL1 (by omega)) (by omega)), if_pos rfl]
      exact ⟨_, _, _, rfl, rfl, h⟩
