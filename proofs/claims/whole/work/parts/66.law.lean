/-! the law's loop and its beginning -/
theorem wl_n0 : Cond.methodLinkNest "SuitByTailors" 9 ⟨"SuitByTailors$Text", "<init>", "()V"⟩ "SuitByTailors" ∈ lw_tbl := List.mem_append_right _ (List.mem_append_left _ (List.mem_of_getElem? (i := 26) rfl))
theorem wl_n1 : Cond.methodLinkNest "SuitByTailors" 37 ⟨"SuitByTailors$Sightings", "<init>", "()V"⟩ "SuitByTailors" ∈ lw_tbl := List.mem_append_right _ (List.mem_append_left _ (List.mem_of_getElem? (i := 91) rfl))
theorem wl_n2 : Cond.methodLinkNest "SuitByTailors" 44 ⟨"SuitByTailors$Pins", "<init>", "()V"⟩ "SuitByTailors" ∈ lw_tbl := List.mem_append_right _ (List.mem_append_left _ (List.mem_of_getElem? (i := 111) rfl))
theorem wl_n3 : Cond.methodLinkNest "SuitByTailors" 51 ⟨"SuitByTailors$OrderSearch", "<init>", "()V"⟩ "SuitByTailors" ∈ lw_tbl := List.mem_append_right _ (List.mem_append_left _ (List.mem_of_getElem? (i := 129) rfl))
theorem wl_n4 : Cond.methodLinkNest "SuitByTailors" 58 ⟨"SuitByTailors$BoltSearch", "<init>", "()V"⟩ "SuitByTailors" ∈ lw_tbl := List.mem_append_right _ (List.mem_append_left _ (List.mem_of_getElem? (i := 157) rfl))
theorem wl_n5 : Cond.methodLinkNest "SuitByTailors" 78 ⟨"SuitByTailors$Plan", "<init>", "()V"⟩ "SuitByTailors" ∈ lw_tbl := List.mem_append_right _ (List.mem_append_left _ (List.mem_of_getElem? (i := 174) rfl))
theorem wl_cs : Cond.laysStatic "java/lang/String" "COMPACT_STRINGS" "Z" ∈ lw_tbl := List.mem_append_right _ (List.mem_append_right _ (List.mem_append_left _ (List.mem_of_getElem? (i := 1) rfl)))
theorem wl_sf : Cond.laysStatic "jdk/internal/util/Preconditions" "SIOOBE_FORMATTER" "Ljava/util/function/BiFunction;" ∈ lw_tbl := List.mem_append_right _ (List.mem_append_right _ (List.mem_append_left _ (List.mem_of_getElem? (i := 17) rfl)))
theorem wl_sr : Cond.stringRef "SuitByTailors" 86 "t100;t110;p0,60,5;p1,60,5;s0,1;" ∈ lw_tbl := List.mem_append_right _ (List.mem_append_left _ (List.mem_of_getElem? (i := 231) rfl))
theorem zstr_el : ∀ j, j < 31 → (Cond.eq (.elem (.field (.string "SuitByTailors" 86) "java/lang/String" "value" "[B") (.int (Int32.ofNat j))) (.int (zTx.getD j 0))) ∈ flatC (Jvm.Cond.and given_1 narrow_1) := by decide +kernel
set_option maxHeartbeats 4000000 in
set_option maxRecDepth 100000 in
theorem law_loop {p : Program} {l : Launch} {e : Env} {s : State} {m : MethodId} {below : List Frame} {meth : Method} {c : Code} {b L : Nat} {xs : Nat → Int32} {A : Nat → Prop} {D : va_G} {cI cB : ClassId} (hL : L ≤ 2048) (C : zLC p s m c b L xs A D cI cB) (hr : meth.sig.returnType = ret) (hlocks : meth.locks = false) (hAs : ∀ q, A q → s.heap.size ≤ q) {hM : Nat → Nat} : ∀ (n i : Nat) (hX : Nat → Nat) (X M : zMm), i ≤ 2052 → L + 1 ≤ i + n → Inv X M → zAtL p l e s m below meth c b A D cI cB hX hM X M i 18 := by
  obtain ⟨hx, hb, hml, hown, hts, hXs, hbA, hbl, hK, hA⟩ := id C
  have eL : ∀ i, i ≤ 2052 → ((Int32.ofNat L - 4 < nI i) ↔ L < i + 4) := fun i hi => by
    have e : Int32.ofNat L - 4 = iI ((L : Int) - 4) := by
      show nI L - nI 4 = _
      rw [← iI_n, ← iI_n, iI_sub]
      rfl
    rw [e, ltT, iI_t (by omega) (by omega), nT (by omega)]
    omega
  have out : ∀ (i : Nat) (hX : Nat → Nat) (X M : zMm), i ≤ 2052 → L < i + 4 → zAtL p l e s m below meth c b A D cI cB hX hM X M i 18 := by
    intro i hX X M h0 h1 H locs ls hP hD hS hl
    refine lv_iload_n hx hb dL_law_18 rfl (lv_at hl 3 rfl) ?_
    refine lv_aload_n hx hb dL_law_19 rfl (lv_at hl 0 rfl) ?_
    refine va_slen hx hb hXs hbl hbA hS dL_law_20 ?_
    refine lv_iconst (v := 4) hx hb dL_law_21 (by decide) ?_
    refine lv_isub hx hb dL_law_22 ?_
    refine lv_icmp_gt (tgt := 796) hx hb dL_law_23 (by decide) (fun _ => ?_) (fun c_1 => absurd ((eL i h0).mpr h1) c_1)
    refine lv_iconst (v := 1) hx hb dL_law_796 (by decide) ?_
    refine va_forget (fun q hq => hAs _ (hS.2.2 q hq)) ?_
    refine W.widen (k := 600000) (n := 7302250) (Nat.le_of_ble_eq_true rfl) (Nat.le_of_ble_eq_true rfl) ?_
    exact lw_ret hx hb hr hlocks dL_law_797
  intro n
  induction n with
  | zero => exact fun i hX X M h0 h1 _ => out i hX X M h0 (by omega)
  | succ n ih =>
    intro i hX X M h0 h1 hI
    rcases Nat.lt_or_ge L (i + 4) with q | q
    · exact out i hX X M h0 q
    have go : ∀ (hX2 : Nat → Nat) (X2 M2 : zMm), Inv X2 M2 → zAtL p l e s m below meth c b A D cI cB hX2 hM X2 M2 i 790 := by
      intro hX2 X2 M2 hI2 H locs ls hP hD hS hl
      refine lv_iinc (v := nI (i + 4)) (lv' := [(3, .int (nI (i + 4))), (0, .ref b), (1, .ref (hX2 0)), (2, .ref (hM 0))]) hx hb dL_law_790 hl (k := 3) rfl (ad4 i).symm (by decide) rfl (fun ls hl => ?_)
      refine lv_goto (tgt := 18) hx hb dL_law_793 (by decide) ?_
      exact ih (i + 4) hX2 X2 M2 (by omega) (by omega) hI2 _ _ _ hP hD hS (lv_sub hl [1, 2, 3, 0] rfl)
    intro H locs ls hP hD hS hl
    refine lv_iload_n hx hb dL_law_18 rfl (lv_at hl 3 rfl) ?_
    refine lv_aload_n hx hb dL_law_19 rfl (lv_at hl 0 rfl) ?_
    refine va_slen hx hb hXs hbl hbA hS dL_law_20 ?_
    refine lv_iconst (v := 4) hx hb dL_law_21 (by decide) ?_
    refine lv_isub hx hb dL_law_22 ?_
    refine lv_icmp_gt (tgt := 796) hx hb dL_law_23 (by decide) (fun c_1 => absurd ((eL i h0).mp c_1) (by omega)) (fun _ => ?_)
    refine lv_aload_n hx hb dL_law_26 rfl (lv_at hl 0 rfl) ?_
    refine lv_iload_n hx hb dL_law_27 rfl (lv_at hl 3 rfl) ?_
    refine va_sld hx hb hXs hbl hbA hS (vp_in_nI (by omega) (by omega)) dL_law_28 ?_
    refine lv_bipush (v := 31) hx hb dL_law_29 (by decide) ?_
    refine lv_iand hx hb dL_law_31 ?_
    refine lv_topi (fun w _ => ?_)
    by_cases c_0 : w = nI 0
    · rw [c_0]
      exact lv_tableIn (tgt := 152) hx hb dL_law_32 (by decide) (by decide) rfl (by decide) (law_write hL C (by omega) hI go _ _ _ hP hD hS hl)
    by_cases c_1 : w = nI 1
    · rw [c_1]
      exact lv_tableIn (tgt := 215) hx hb dL_law_32 (by decide) (by decide) rfl (by decide) (law_wipe hL C (by omega) hI go _ _ _ hP hD hS hl)
    by_cases c_2 : w = nI 2
    · rw [c_2]
      exact lv_tableIn (tgt := 228) hx hb dL_law_32 (by decide) (by decide) rfl (by decide) (law_fault hL C (by omega) hI go _ _ _ hP hD hS hl)
    by_cases c_3 : w = nI 3
    · rw [c_3]
      exact lv_tableIn (tgt := 241) hx hb dL_law_32 (by decide) (by decide) rfl (by decide) (law_lay hL C (by omega) hI go _ _ _ hP hD hS hl)
    by_cases c_4 : w = nI 4
    · rw [c_4]
      exact lv_tableIn (tgt := 254) hx hb dL_law_32 (by decide) (by decide) rfl (by decide) (law_part hL C (by omega) hI go _ _ _ hP hD hS hl)
    by_cases c_5 : w = nI 5
    · rw [c_5]
      exact lv_tableIn (tgt := 287) hx hb dL_law_32 (by decide) (by decide) rfl (by decide) (law_gap hL C (by omega) hI go _ _ _ hP hD hS hl)
    by_cases c_6 : w = nI 6
    · rw [c_6]
      exact lv_tableIn (tgt := 310) hx hb dL_law_32 (by decide) (by decide) rfl (by decide) (law_closes hL C (by omega) hI go _ _ _ hP hD hS hl)
    by_cases c_7 : w = nI 7
    · rw [c_7]
      exact lv_tableIn (tgt := 323) hx hb dL_law_32 (by decide) (by decide) rfl (by decide) (law_change hL C (by omega) hI go _ _ _ hP hD hS hl)
    by_cases c_8 : w = nI 8
    · rw [c_8]
      exact lv_tableIn (tgt := 356) hx hb dL_law_32 (by decide) (by decide) rfl (by decide) (law_alter hL C (by omega) hI go _ _ _ hP hD hS hl)
    by_cases c_9 : w = nI 9
    · rw [c_9]
      exact lv_tableIn (tgt := 389) hx hb dL_law_32 (by decide) (by decide) rfl (by decide) (law_undo hL C (by omega) hI go _ _ _ hP hD hS hl)
    by_cases c_10 : w = nI 10
    · rw [c_10]
      exact lv_tableIn (tgt := 402) hx hb dL_law_32 (by decide) (by decide) rfl (by decide) (law_order hL C (by omega) hI go _ _ _ hP hD hS hl)
    by_cases c_11 : w = nI 11
    · rw [c_11]
      exact lv_tableIn (tgt := 425) hx hb dL_law_32 (by decide) (by decide) rfl (by decide) (law_bribes hL C (by omega) hI go _ _ _ hP hD hS hl)
    by_cases c_12 : w = nI 12
    · rw [c_12]
      exact lv_tableIn (tgt := 448) hx hb dL_law_32 (by decide) (by decide) rfl (by decide) (law_closed hL C (by omega) hI go _ _ _ hP hD hS hl)
    by_cases c_13 : w = nI 13
    · rw [c_13]
      exact lv_tableIn (tgt := 471) hx hb dL_law_32 (by decide) (by decide) rfl (by decide) (law_seen hL C (by omega) hI go _ _ _ hP hD hS hl)
    by_cases c_14 : w = nI 14
    · rw [c_14]
      exact lv_tableIn (tgt := 514) hx hb dL_law_32 (by decide) (by decide) rfl (by decide) (law_forget hL C (by omega) hI go _ _ _ hP hD hS hl)
    by_cases c_15 : w = nI 15
    · rw [c_15]
      exact lv_tableIn (tgt := 527) hx hb dL_law_32 (by decide) (by decide) rfl (by decide) (law_inch hL C (by omega) hI go _ _ _ hP hD hS hl)
    by_cases c_16 : w = nI 16
    · rw [c_16]
      exact lv_tableIn (tgt := 560) hx hb dL_law_32 (by decide) (by decide) rfl (by decide) (law_added hL C (by omega) hI go _ _ _ hP hD hS hl)
    by_cases c_17 : w = nI 17
    · rw [c_17]
      exact lv_tableIn (tgt := 593) hx hb dL_law_32 (by decide) (by decide) rfl (by decide) (law_bolts hL C (by omega) hI go _ _ _ hP hD hS hl)
    by_cases c_18 : w = nI 18
    · rw [c_18]
      exact lv_tableIn (tgt := 616) hx hb dL_law_32 (by decide) (by decide) rfl (by decide) (law_coat hL C (by omega) hI go _ _ _ hP hD hS hl)
    by_cases c_19 : w = nI 19
    · rw [c_19]
      exact lv_tableIn (tgt := 639) hx hb dL_law_32 (by decide) (by decide) rfl (by decide) (law_pin hL C (by omega) hI go _ _ _ hP hD hS hl)
    by_cases c_20 : w = nI 20
    · rw [c_20]
      exact lv_tableIn (tgt := 662) hx hb dL_law_32 (by decide) (by decide) rfl (by decide) (law_noPins hL C (by omega) hI go _ _ _ hP hD hS hl)
    by_cases c_21 : w = nI 21
    · rw [c_21]
      exact lv_tableIn (tgt := 675) hx hb dL_law_32 (by decide) (by decide) rfl (by decide) (law_thumb hL C (by omega) hI go _ _ _ hP hD hS hl)
    by_cases c_22 : w = nI 22
    · rw [c_22]
      exact lv_tableIn (tgt := 698) hx hb dL_law_32 (by decide) (by decide) rfl (by decide) (law_year hL C (by omega) hI go _ _ _ hP hD hS hl)
    by_cases c_23 : w = nI 23
    · rw [c_23]
      exact lv_tableIn (tgt := 741) hx hb dL_law_32 (by decide) (by decide) rfl (by decide) (law_keep hL C (by omega) hI go _ _ _ hP hD hS hl)
    by_cases c_24 : w = nI 24
    · rw [c_24]
      exact lv_tableIn (tgt := 754) hx hb dL_law_32 (by decide) (by decide) rfl (by decide) (law_back hL C (by omega) hI go _ _ _ hP hD hS hl)
    by_cases c_25 : w = nI 25
    · rw [c_25]
      exact lv_tableIn (tgt := 767) hx hb dL_law_32 (by decide) (by decide) rfl (by decide) (law_count hL C (by omega) hI go _ _ _ hP hD hS hl)
    refine lv_tableOut (tgt := 790) hx hb dL_law_32 (zsw_out (lo := 0) (hi := 25) (by decide) (fun k h0 h1 e => ?_)) (by decide) (go hX X M hI _ _ _ hP hD hS hl)
    rcases (show k = 0 ∨ k = 1 ∨ k = 2 ∨ k = 3 ∨ k = 4 ∨ k = 5 ∨ k = 6 ∨ k = 7 ∨ k = 8 ∨ k = 9 ∨ k = 10 ∨ k = 11 ∨ k = 12 ∨ k = 13 ∨ k = 14 ∨ k = 15 ∨ k = 16 ∨ k = 17 ∨ k = 18 ∨ k = 19 ∨ k = 20 ∨ k = 21 ∨ k = 22 ∨ k = 23 ∨ k = 24 ∨ k = 25 by omega) with rfl | rfl | rfl | rfl | rfl | rfl | rfl | rfl | rfl | rfl | rfl | rfl | rfl | rfl | rfl | rfl | rfl | rfl | rfl | rfl | rfl | rfl | rfl | rfl | rfl | rfl
    · exact c_0 e
    · exact c_1 e
    · exact c_2 e
    · exact c_3 e
    · exact c_4 e
    · exact c_5 e
    · exact c_6 e
    · exact c_7 e
    · exact c_8 e
    · exact c_9 e
    · exact c_10 e
    · exact c_11 e
    · exact c_12 e
    · exact c_13 e
    · exact c_14 e
    · exact c_15 e
    · exact c_16 e
    · exact c_17 e
    · exact c_18 e
    · exact c_19 e
    · exact c_20 e
    · exact c_21 e
    · exact c_22 e
    · exact c_23 e
    · exact c_24 e
    · exact c_25 e

set_option maxHeartbeats 4000000 in
set_option maxRecDepth 100000 in
theorem z_arr {s : State} {args : Array Value} {ty : FieldType} (h : (Cond.arrayClass ty).before args s = true) : ∃ cA : ClassId, ArrOfT s cA ty ∧ s.vm.findClass ("[" ++ ty.toString) = some cA := by
  obtain ⟨cA, k, comp, h1, h2, h3⟩ := Cond.arrayClass_spec h
  exact ⟨cA, fun n z => ⟨fun k h => (by cases h), k, h2, comp, h3⟩, h1⟩
set_option maxHeartbeats 4000000 in
set_option maxRecDepth 100000 in
theorem whole_start {p : Program} {e : Env} {s : State} {m : MethodId} {below : List Frame} {meth : Method} {c : Code} (l : Launch) (hflags : l.flags = flags0) {b L : Nat} {xs : Nat → Int32} (hL : L ≤ 2048) (C0 : lw_At p s m meth c b L xs) : W p l e room_1 s m #[Value.ref b] below meth c s.heap [] 0 0 (lw_Z below #[Value.ref b] s) (entryFrame m ([Value.ref b] : List Value).toArray 4) := by
  obtain ⟨hx, hb, hr, hml, hown, hts, hXs, hbl, hlocks, hgv⟩ := id C0
  have hs := flat_of_before _ hgv
  have hA : ∀ q : Nat, s.heap.size ≤ q → (zAs s.heap.size) q := fun _ h => h
  have hbA : ¬ (zAs s.heap.size) b := Nat.not_le.mpr hbl
  have hlow : ∀ a : Nat, a < s.heap.size → ¬ (zAs s.heap.size) a := fun a h => Nat.not_le.mpr h
  obtain ⟨c0, i0, k0⟩ := u_known (C := RX0) (T := TX0) (N := 3) (n := 3) hts (fun w h => wG_in (z_inX0 w h)) (hts _ (wG_in wd_156))
  obtain ⟨c1, i1, k1⟩ := u_known (C := RX1) (T := TX1) (N := 2) (n := 2) hts (fun w h => wG_in (z_inX1 w h)) (hts _ (wG_in wd_44))
  obtain ⟨c2, i2, k2⟩ := u_known (C := RX2) (T := TX2) (N := 5) (n := 5) hts (fun w h => wG_in (z_inX2 w h)) (hts _ (wG_in wd_64))
  obtain ⟨c3, i3, k3⟩ := u_known (C := RX3) (T := TX3) (N := 6) (n := 6) hts (fun w h => wG_in (z_inX3 w h)) (hts _ (wG_in wd_128))
  obtain ⟨c4, i4, k4⟩ := u_known (C := RX4) (T := TX4) (N := 3) (n := 3) hts (fun w h => wG_in (z_inX4 w h)) (hts _ (wG_in wd_110))
  obtain ⟨c5, i5, k5⟩ := u_known (C := RX5) (T := TX5) (N := 12) (n := 12) hts (fun w h => wG_in (z_inX5 w h)) (hts _ (wG_in wd_173))
  obtain ⟨c6, i6, k6⟩ := u_known (C := RX6) (T := TX6) (N := 4) (n := 4) hts (fun w h => wG_in (z_inX6 w h)) (hts _ (wG_in wd_90))
  obtain ⟨c7, i7, k7⟩ := u_known (C := RX7) (T := TX7) (N := 3) (n := 3) hts (fun w h => wG_in (z_inX7 w h)) (hts _ (wG_in wd_25))
  obtain ⟨c8, i8, k8⟩ := u_known (C := RX8) (T := TX8) (N := 14) (n := 14) hts (fun w h => wG_in (z_inX8 w h)) (hts _ (wG_in wd_17))
  obtain ⟨c9, i9, k9⟩ := u_known (C := RX9) (T := TX9) (N := 23) (n := 23) hts (fun w h => wG_in (z_inX9 w h)) (hts _ (wG_in wd_639))
  obtain ⟨D, hKc⟩ : ∃ D : va_G, ∀ (k : Nat) (q : vw_C), vwCl[k]? = some q → u_Kn s q.1 q.2.1 q.2.2 (D.1 k) (D.2 k) := by
    refine ⟨(fun k => [c0, c1, c2, c3, c4, c5, c6, c7, c8, c9].getD k c0, fun k => [i0, i1, i2, i3, i4, i5, i6, i7, i8, i9].getD k i0), ?_⟩
    intro k q hq
    match k, hq with
    | 0, hq => cases hq; exact k0
    | 1, hq => cases hq; exact k1
    | 2, hq => cases hq; exact k2
    | 3, hq => cases hq; exact k3
    | 4, hq => cases hq; exact k4
    | 5, hq => cases hq; exact k5
    | 6, hq => cases hq; exact k6
    | 7, hq => cases hq; exact k7
    | 8, hq => cases hq; exact k8
    | 9, hq => cases hq; exact k9
    | k + 10, hq => simp [vwCl] at hq
  obtain ⟨cI, aI, fI⟩ := z_arr (ty := .int) (hts _ (wG_in wd_42))
  obtain ⟨cB, aB, fB⟩ := z_arr (ty := .byte) (hts _ (wG_in wd_41))
  have hK : va_K D vwCl [(cI, .int), (cB, .byte)] s := ⟨hKc, fun k q h => match k, h with
    | 0, h => by cases h; exact ⟨aI, fI⟩
    | 1, h => by cases h; exact ⟨aB, fB⟩
    | k + 2, h => by simp at h⟩
  have C : zLC p s m c b L xs (zAs s.heap.size) D cI cB := ⟨hx, hb, hml, hown, hts, hXs, hbA, hbl, hK, hA⟩
  obtain ⟨adK, adV, hS0, hT0⟩ := vk_Sof (N := 1) (tm := fun _ => .string "SuitByTailors" 86) (len := [31]) (byt := [zTx]) (A := zAs s.heap.size) (args := #[Value.ref b]) (s := s)
    (fun i hi => by rcases (show i = 0 by omega) with rfl; decide)
    (fun i hi => hs _ (by decide +kernel))
    (fun i hi => hs _ (by decide +kernel))
    (fun i hi => hs _ (by decide +kernel))
    (fun i hi => by rcases (show i = 0 by omega) with rfl; exact hs _ (by decide +kernel))
    (fun i hi j hj => by rcases (show i = 0 by omega) with rfl; exact hs _ (zstr_el j hj))
    (fun i j hi hj h => absurd (show i = j by omega) h) hlow
  have hE : zSt (adK 0) (adV 0) (zAs s.heap.size) s s.heap := ⟨⟨fun i hi => by rcases (show i = 0 by omega) with rfl; exact hS0.1 0 hi, fun i j hi hj _ => by omega⟩, va_Zof (hts _ wl_cs) (hts _ (wG_in wd_11)) (va_eqt (hs _ (by decide +kernel))) hlow, va_Zqof (hts _ wl_sf) (hts _ (wG_in wd_13)) (hs _ (by decide +kernel)) hlow⟩
  have hR : vk_R "SuitByTailors" 86 "t100;t110;p0,60,5;p1,60,5;s0,1;" (adK 0) s := vk_R.of (hts _ wl_sr) (hT0 0 (by decide))
  have hS : va_S (zAs s.heap.size) s.heap s.heap [] := va_S.rf
  have hP : va_P D vwCl [] s.heap := fun k q h => by simp at h
  have hD : va_D (zAs s.heap.size) [] := ⟨fun i j p q h => by simp at h, fun k q h => by simp at h⟩
  have hl := lv_entry ([.ref b]) (n := 4) (Nat.le_of_ble_eq_true rfl)
  rw [lg_entry_eq]
  generalize (lg_sl ([.ref b]) ++ List.replicate (4 - (lg_sl ([.ref b])).length) Slot.unset).toArray = ls at hl ⊢
  have hl : lv_has ls 4 [(0, .ref b)] := hl
  obtain ⟨X0, M0, f8, f9, hI⟩ := inv0
  refine va_new (ci := 8) (fs := [.null, .null, .null, .null, .null, .null, .null, .null, .null, .null, .null, .null, .null, .null]) (C := RX8) (T := TX8) (N := 14) hx hb hts (fun w h => wG_in (z_inX8 w h)) tyX8 tyX8_ok hown (hts _ (wG_in wd_16)) (hts _ (wG_in wd_17)) (hts _ (wG_in wd_1)) hK hP hD hS hA rfl (fun j hj => match j, hj with | 0, _ => rfl | 1, _ => rfl | 2, _ => rfl | 3, _ => rfl | 4, _ => rfl | 5, _ => rfl | 6, _ => rfl | 7, _ => rfl | 8, _ => rfl | 9, _ => rfl | 10, _ => rfl | 11, _ => rfl | 12, _ => rfl | 13, _ => rfl | k + 14, h => absurd h (by omega)) (Nat.le_of_ble_eq_true rfl) (Nat.le_of_ble_eq_true rfl) dL_law_0 (fun q8 H hP hD hS => ?_)
  refine lv_dup hx hb dL_law_3 rfl ?_
  have hC8 := z_mapC [] (q8, .inr (8, [.null, .null, .null, .null, .null, .null, .null, .null, .null, .null, .null, .null, .null, .null]))
  have hPc := hP.sub [0] (z_fm (w2 := [(q8, .inr (8, [.null, .null, .null, .null, .null, .null, .null, .null, .null, .null, .null, .null, .null, .null]))]) hC8)
  have hDc := hD.sub [0] rfl hC8
  have hFc := va_free (wc := [(q8, .inr (8, [.null, .null, .null, .null, .null, .null, .null, .null, .null, .null, .null, .null, .null, .null]))]) hD hS hA [0] hC8
  refine va_callv (va_runI (As := []) (rest := [.ref q8]) ⟨hx, hb, hml, hown, hts⟩ (c_X8_init l D cI cB (adK 0) (adV 0) q8 X0 f8 H.size) (cwI 0 hts (z_gI (fun w h => wG_in h) wd_20) rfl rfl rfl (hts _ (wG_in wd_1)) (hts _ (wG_in wd_18)) (hts _ (wG_in wd_19)) rfl q_X8_init ⟨Nat.le_of_ble_eq_true rfl, Nat.le_of_ble_eq_true rfl⟩) ⟨zPe_blind, fun U hU hW => ⟨rfl, by rw [hU], by rw [hU]; exact hPc, va_K.moved hW.alike hK, hDc.weaken (fun _ _ _ _ => trivial), vk_R.warm hW hR, by rw [hU]; exact ((hE.kept hS.2.1).narrow hFc).moved hW.alike, va_Nw.warmM hW (va_Nw.of rfl (hts _ wl_n0)), va_Nw.warmM hW (va_Nw.of rfl (hts _ wl_n1)), va_Nw.warmM hW (va_Nw.of rfl (hts _ wl_n2)), va_Nw.warmM hW (va_Nw.of rfl (hts _ wl_n3)), va_Nw.warmM hW (va_Nw.of rfl (hts _ wl_n4)), va_Nw.warmM hW (va_Nw.of rfl (hts _ wl_n5))⟩⟩ rfl rfl hl.1 rfl (lv_room (Nat.le_of_ble_eq_true rfl)) dL_law_4 ⟨Nat.le_of_ble_eq_true rfl, Nat.le_of_ble_eq_true rfl⟩) hS (fun q _ h => hFc q h) hFc (fun h8 t H1 locs ht hvm hw hB hz1 hk1 hS => ?_)
  obtain ⟨hP1, hK1, hD1⟩ := hB
  rw [ht] at hP1
  obtain ⟨hPj, hDj⟩ := z_joinC (wr := []) (wf := fun h => w8 cI cB h X0) (h := h8) hP hD ‹va_S (zAs s.heap.size) s.heap H []› hA hk1 hP1 hD1
  clear hP hD
  have hP : va_P D vwCl (w8 cI cB h8 X0) H1 := hPj
  have hD : va_D (zAs s.heap.size) (w8 cI cB h8 X0) := hDj
  refine lv_astore_n (lv' := [(1, .ref q8), (0, .ref b)]) hx hb dL_law_7 rfl hl (by decide) rfl (fun ls hl => ?_)
  refine va_new (ci := 9) (fs := [.int 0, .null, .int 0, .null, .null, .null, .null, .null, .null, .null, .null, .int 0, .int 0, .int 0, .null, .int 0, .null, .null, .null, .null, .null, .null, .null]) (C := RX9) (T := TX9) (N := 23) hx hb hts (fun w h => wG_in (z_inX9 w h)) tyX9 tyX9_ok hown (hts _ (wG_in wd_638)) (hts _ (wG_in wd_639)) (hts _ (wG_in wd_15)) hK hP hD hS hA rfl (fun j hj => match j, hj with | 0, _ => rfl | 1, _ => rfl | 2, _ => rfl | 3, _ => rfl | 4, _ => rfl | 5, _ => rfl | 6, _ => rfl | 7, _ => rfl | 8, _ => rfl | 9, _ => rfl | 10, _ => rfl | 11, _ => rfl | 12, _ => rfl | 13, _ => rfl | 14, _ => rfl | 15, _ => rfl | 16, _ => rfl | 17, _ => rfl | 18, _ => rfl | 19, _ => rfl | 20, _ => rfl | 21, _ => rfl | 22, _ => rfl | k + 23, h => absurd h (by omega)) (Nat.le_of_ble_eq_true rfl) (Nat.le_of_ble_eq_true rfl) dL_law_8 (fun q9 H hP hD hS => ?_)
  refine lv_dup hx hb dL_law_11 rfl ?_
  refine zcallC (As := []) (rest := [.ref q9]) ⟨hx, hb, hml, hown, hts⟩ (c_X9_init l D cI cB q9 M0 f9) (cwI 0 hts (z_gI (fun w h => wG_in h) wd_642) rfl rfl rfl (hts _ (wG_in wd_15)) (hts _ (wG_in wd_640)) (hts _ (wG_in wd_641)) rfl q_X9_init ⟨Nat.le_of_ble_eq_true rfl, Nat.le_of_ble_eq_true rfl⟩) hK hP hD hS hA rfl hl.1 (Nat.le_of_ble_eq_true rfl) dL_law_12 ⟨Nat.le_of_ble_eq_true rfl, Nat.le_of_ble_eq_true rfl⟩ rfl (fun h9 H locs e9 hPz hDz hSz => ?_)
  refine lv_astore_n (lv' := [(2, .ref q9), (1, .ref q8), (0, .ref b)]) hx hb dL_law_15 rfl hl (by decide) rfl (fun ls hl => ?_)
  refine lv_iconst (v := 0) hx hb dL_law_16 (by decide) ?_
  refine lv_istore_n (lv' := [(3, .int 0), (2, .ref q9), (1, .ref q8), (0, .ref b)]) hx hb dL_law_17 rfl hl (by decide) rfl (fun ls hl => ?_)
  refine W.widen (k := 63) (n := 1400) (Nat.le_of_ble_eq_true rfl) (Nat.le_of_ble_eq_true rfl) ?_
  have hw : h8 0 = q8 := hw
  rw [← e9, ← hw] at hl
  exact law_loop hL C hr hlocks (fun _ h => h) (L + 1) 0 h8 X0 M0 (by omega) (by omega) hI _ _ _ hPz hDz hSz (lv_sub hl [3, 2, 1, 0] rfl)
