def L_X1_startAnew_2  : Nat → Int32 → zMm → Option (Int32 × zMm)
  | 0, _, _ => none
  | n + 1, l1, M => if (7 : Int32) ≤ l1 then some (l1, M) else zw 7 M 0 l1 l1 (fun M_2 => zw 7 M_2 1 l1 0 (fun M_3 => zv (l1 + 1) (fun (x4 : Int32) => L_X1_startAnew_2  n x4 M_3)))
def f_X1_startAnew (M : zMm) : Option (zMm) := zb2 (L_X1_startAnew_2 100000 0 M) (fun (x5 : Int32) (M_6 : zMm) => some M_6)
abbrev ww_X1_startAnew : List Cond := Cond.code yX1_startAnew cX1_startAnew 2 none :: wG
theorem q_X1_startAnew : yX1_startAnew.cls = RX1 ∧ yX1_startAnew.cls ≠ "java/lang/invoke/MethodHandle" ∧ yX1_startAnew.cls ≠ "java/lang/invoke/VarHandle" ∧ (parseMethodDescriptor yX1_startAnew.desc).map (fun d => d.parameters.length) = some 0 := by decide +kernel
set_option maxHeartbeats 4000000 in
set_option maxRecDepth 100000 in
theorem c_X1_startAnew (l : Launch) (D : va_G) (cI cB : ClassId) (hM : Nat → Nat) (M : zMm) (M0 : zMm) (hf : f_X1_startAnew M = some M0) : zMv l yX1_startAnew ww_X1_startAnew ({ frames := 0, cells := 0, slots := 0, locals := 0 } : Room) D cI cB [.ref (hM 0)] (w1 cI cB hM M) (w1 cI cB hM M0) := by
  refine zofV (cc := cX1_startAnew) (maxL := 2) (ret := none) (by decide +kernel) rfl (Nat.le_of_ble_eq_true rfl) ?_
  intro p e s m below meth c A ls hx hb hml hr hown hts hlocks hK hP hD hS hA hl
  have hl : lv_has ls 2 [(0, .ref (hM 0))] := hl
  have hown : s.vm.findClass RX1 = some m.cls := hown
  have hG : ∀ w ∈ wG, w ∈ ww_X1_startAnew := fun w h => List.mem_cons_of_mem _ h
  have hi1 : ∀ w ∈ wsX10, w ∈ ww_X1_startAnew := fun w h => List.mem_cons_of_mem _ (z_inX1 w h)
  have L2 : ∀  (n : Nat) (l1 : Int32) (M : zMm) (o1 : Int32) (oM : zMm), L_X1_startAnew_2  n l1 M = some (o1, oM) → zAt p l e ({ frames := 0, cells := 0, slots := 0, locals := 0 } : Room) s m [.ref (hM 0)].toArray below meth c (MQ below (zQv D cI cB (w1 cI cB hM M0) A) [.ref (hM 0)].toArray s 0 0 A) A D 2 (w1 cI cB hM oM) [(0, .ref (hM 0)), (1, .int o1)] 28 [] → zAt p l e ({ frames := 0, cells := 0, slots := 0, locals := 0 } : Room) s m [.ref (hM 0)].toArray below meth c (MQ below (zQv D cI cB (w1 cI cB hM M0) A) [.ref (hM 0)].toArray s 0 0 A) A D 2 (w1 cI cB hM M) [(0, .ref (hM 0)), (1, .int l1)] 2 [] := by
    intro n
    induction n with
    | zero => intro l1 M o1 oM hf; simp [L_X1_startAnew_2] at hf
    | succ n ih =>
      intro l1 M o1 oM hf hk H locs ls hP hD hS hl
      rw [L_X1_startAnew_2] at hf
      refine lv_iload_n hx hb dX1_startAnew_2 rfl (lv_at hl 1 rfl) ?_
      refine lv_bipush (v := 7) hx hb dX1_startAnew_3 (by decide) ?_
      refine lv_icmp_ge (tgt := 28) hx hb dX1_startAnew_5 (by decide) (fun c_1 => ?_) (fun c_1 => ?_)
      · replace hf := zit c_1 hf
        cases hf
        exact hk _ _ _ hP hD hS (lv_sub hl [0, 1] rfl)
      · replace hf := zif c_1 hf
        refine lv_aload_n hx hb dX1_startAnew_8 rfl (lv_at hl 0 rfl) ?_
        refine va_get (D := D) (ci := 1) (v := .ref (hM 1)) (C := RX1) (T := TX1) (N := 2) hx hb hts hi1 hown hK hP 0 rfl rfl 0 (Nat.le_of_ble_eq_true rfl) (hts _ (List.mem_cons_of_mem _ wd_53)) (fun _ h9 => h9) rfl dX1_startAnew_9 ?_
        refine lv_iload_n hx hb dX1_startAnew_12 rfl (lv_at hl 1 rfl) ?_
        refine lv_iload_n hx hb dX1_startAnew_13 rfl (lv_at hl 1 rfl) ?_
        obtain ⟨i_M_2, M_2, e_M_2, hf⟩ := zw_some hf
        refine va_iast (n := 7) (f := M 0) (cA := cI) hx hb hK hP hD hS 1 0 rfl rfl i_M_2 dX1_startAnew_14 (fun H locs hP hD hS => ?_)
        have hP : va_P D vwCl (w1 cI cB hM (zs M 0 (upd (M 0) l1.toNatClampNeg l1))) H := hP
        have hD : va_D A (w1 cI cB hM (zs M 0 (upd (M 0) l1.toNatClampNeg l1))) := hD
        rw [← e_M_2] at hP hD
        refine lv_aload_n hx hb dX1_startAnew_15 rfl (lv_at hl 0 rfl) ?_
        refine va_get (D := D) (ci := 1) (v := .ref (hM 2)) (C := RX1) (T := TX1) (N := 2) hx hb hts hi1 hown hK hP 0 rfl rfl 1 (Nat.le_of_ble_eq_true rfl) (hts _ (List.mem_cons_of_mem _ wd_55)) (fun _ h9 => h9) rfl dX1_startAnew_16 ?_
        refine lv_iload_n hx hb dX1_startAnew_19 rfl (lv_at hl 1 rfl) ?_
        refine lv_iconst (v := 0) hx hb dX1_startAnew_20 (by decide) ?_
        obtain ⟨i_M_3, M_3, e_M_3, hf⟩ := zw_some hf
        refine va_iast (n := 7) (f := M_2 1) (cA := cI) hx hb hK hP hD hS 2 0 rfl rfl i_M_3 dX1_startAnew_21 (fun H locs hP hD hS => ?_)
        have hP : va_P D vwCl (w1 cI cB hM (zs M_2 1 (upd (M_2 1) l1.toNatClampNeg 0))) H := hP
        have hD : va_D A (w1 cI cB hM (zs M_2 1 (upd (M_2 1) l1.toNatClampNeg 0))) := hD
        rw [← e_M_3] at hP hD
        obtain ⟨x4, e_x4, hf⟩ := zv_some hf
        refine lv_iinc (v := x4) (lv' := [(1, .int x4), (0, .ref (hM 0))]) hx hb dX1_startAnew_22 hl (k := 1) rfl (by rw [e_x4]; rfl) (by decide) rfl (fun ls hl => ?_)
        refine lv_goto (tgt := 2) hx hb dX1_startAnew_25 (by decide) ?_
        exact ih _ _ _ _ hf hk _ _ _ hP hD hS (lv_sub hl [1, 0] rfl)
  unfold f_X1_startAnew at hf
  refine lv_iconst (v := 0) hx hb dX1_startAnew_0 (by decide) ?_
  refine lv_istore_n (lv' := [(1, .int 0), (0, .ref (hM 0))]) hx hb dX1_startAnew_1 rfl hl (by decide) rfl (fun ls hl => ?_)
  obtain ⟨x5, M_6, hq7, hf⟩ := zb2_some hf
  refine L2 _ _ _ _ _ hq7 ?_ _ _ _ hP hD hS (lv_sub hl [1, 0] rfl)
  intro H locs ls hP hD hS hl
  cases hf
  exact zretV hx hb hr hlocks hK hP hD hS dX1_startAnew_28
def L_X1_placeOf_2 (M : zMm) (l1 : Int32) : Nat → Int32 → Option (Int32)
  | 0, _ => none
  | n + 1, l2 => if (7 : Int32) ≤ l2 then some (0 : Int32) else zl 7 (M 0) l2 (fun v2 => if v2 = l1 then some l2 else zv (l2 + 1) (fun (x4 : Int32) => L_X1_placeOf_2 M l1 n x4))
def f_X1_placeOf (M : zMm) (a1 : Int32) : Option (Int32) := L_X1_placeOf_2 M a1 100000 0
abbrev ww_X1_placeOf : List Cond := Cond.code yX1_placeOf cX1_placeOf 3 (some .int) :: wG
theorem q_X1_placeOf : yX1_placeOf.cls = RX1 ∧ yX1_placeOf.cls ≠ "java/lang/invoke/MethodHandle" ∧ yX1_placeOf.cls ≠ "java/lang/invoke/VarHandle" ∧ (parseMethodDescriptor yX1_placeOf.desc).map (fun d => d.parameters.length) = some 1 := by decide +kernel
set_option maxHeartbeats 4000000 in
set_option maxRecDepth 100000 in
theorem c_X1_placeOf (l : Launch) (D : va_G) (cI cB : ClassId) (hM : Nat → Nat) (M : zMm) (a1 : Int32) (r0 : Int32) (hf : f_X1_placeOf M a1 = some r0) : zMi l yX1_placeOf ww_X1_placeOf ({ frames := 0, cells := 0, slots := 0, locals := 0 } : Room) D cI cB [.ref (hM 0), .int a1] [k1_0 cI cB hM M, k1_1 cI cB hM M] r0 [k1_0 cI cB hM M, k1_1 cI cB hM M] := by
  refine zofI (cc := cX1_placeOf) (maxL := 3) (ret := (some .int)) (by decide +kernel) rfl (Nat.le_of_ble_eq_true rfl) ?_
  intro p e s m below meth c A ls hx hb hml hr hown hts hlocks hK hP hD hS hA hl
  have hl : lv_has ls 3 [(0, .ref (hM 0)), (1, .int a1)] := hl
  have hown : s.vm.findClass RX1 = some m.cls := hown
  have hG : ∀ w ∈ wG, w ∈ ww_X1_placeOf := fun w h => List.mem_cons_of_mem _ h
  have hi1 : ∀ w ∈ wsX10, w ∈ ww_X1_placeOf := fun w h => List.mem_cons_of_mem _ (z_inX1 w h)
  have L2 : ∀ (M : zMm) (l1 : Int32) (n : Nat) (l2 : Int32), L_X1_placeOf_2 M l1 n l2 = some r0 → zAt p l e ({ frames := 0, cells := 0, slots := 0, locals := 0 } : Room) s m [.ref (hM 0), .int a1].toArray below meth c (MQ below (zQi D cI cB r0 [k1_0 cI cB hM M, k1_1 cI cB hM M] A) [.ref (hM 0), .int a1].toArray s 0 0 A) A D 3 [k1_0 cI cB hM M, k1_1 cI cB hM M] [(0, .ref (hM 0)), (1, .int l1), (2, .int l2)] 2 [] := by
    intro M l1 n
    induction n with
    | zero => intro l2 hf; simp [L_X1_placeOf_2] at hf
    | succ n ih =>
      intro l2 hf H locs ls hP hD hS hl
      rw [L_X1_placeOf_2] at hf
      refine lv_iload_n hx hb dX1_placeOf_2 rfl (lv_at hl 2 rfl) ?_
      refine lv_bipush (v := 7) hx hb dX1_placeOf_3 (by decide) ?_
      refine lv_icmp_ge (tgt := 26) hx hb dX1_placeOf_5 (by decide) (fun c_1 => ?_) (fun c_1 => ?_)
      · replace hf := zit c_1 hf
        refine lv_iconst (v := 0) hx hb dX1_placeOf_26 (by decide) ?_
        cases hf
        exact zretI hx hb hr hlocks hK hP hD hS dX1_placeOf_27
      · replace hf := zif c_1 hf
        refine lv_aload_n hx hb dX1_placeOf_8 rfl (lv_at hl 0 rfl) ?_
        refine va_get (D := D) (ci := 1) (v := .ref (hM 1)) (C := RX1) (T := TX1) (N := 2) hx hb hts hi1 hown hK hP 0 rfl rfl 0 (Nat.le_of_ble_eq_true rfl) (hts _ (List.mem_cons_of_mem _ wd_53)) (fun _ h9 => h9) rfl dX1_placeOf_9 ?_
        refine lv_iload_n hx hb dX1_placeOf_12 rfl (lv_at hl 2 rfl) ?_
        obtain ⟨i_v2, v2, e_v2, hf⟩ := zl_some hf
        refine va_iald (n := 7) (f := M 0) (cA := cI) hx hb hK hP 1 0 rfl rfl i_v2 dX1_placeOf_13 ?_
        refine zt e_v2 ?_
        refine lv_iload_n hx hb dX1_placeOf_14 rfl (lv_at hl 1 rfl) ?_
        refine lv_icmp_ne (tgt := 20) hx hb dX1_placeOf_15 (by decide) (fun c_3 => ?_) (fun c_3 => ?_)
        · replace hf := zif c_3 hf
          obtain ⟨x4, e_x4, hf⟩ := zv_some hf
          refine lv_iinc (v := x4) (lv' := [(2, .int x4), (0, .ref (hM 0)), (1, .int l1)]) hx hb dX1_placeOf_20 hl (k := 2) rfl (by rw [e_x4]; rfl) (by decide) rfl (fun ls hl => ?_)
          refine lv_goto (tgt := 2) hx hb dX1_placeOf_23 (by decide) ?_
          exact ih _ hf _ _ _ hP hD hS (lv_sub hl [1, 2, 0] rfl)
        · replace hf := zit c_3 hf
          refine lv_iload_n hx hb dX1_placeOf_18 rfl (lv_at hl 2 rfl) ?_
          cases hf
          exact zretI hx hb hr hlocks hK hP hD hS dX1_placeOf_19
  unfold f_X1_placeOf at hf
  refine lv_iconst (v := 0) hx hb dX1_placeOf_0 (by decide) ?_
  refine lv_istore_n (lv' := [(2, .int 0), (0, .ref (hM 0)), (1, .int a1)]) hx hb dX1_placeOf_1 rfl hl (by decide) rfl (fun ls hl => ?_)
  exact L2 _ _ _ _ hf _ _ _ hP hD hS (lv_sub hl [1, 2, 0] rfl)
def L_X1_swapPlaces_29 (l1 : Int32) (l2 : Int32) (l3 : Int32) : Nat → Int32 → zMm → Option (Int32 × zMm)
  | 0, _, _ => none
  | n + 1, l4, M => if (7 : Int32) ≤ l4 then some (l4, M) else zw 7 M 1 l4 0 (fun M_6 => zv (l4 + 1) (fun (x7 : Int32) => L_X1_swapPlaces_29 l1 l2 l3 n x7 M_6))
def f_X1_swapPlaces (M : zMm) (a1 : Int32) (a2 : Int32) : Option (zMm) := zl 7 (M 0) a1 (fun v1 => zl 7 (M 0) a2 (fun v2 => zw 7 M 0 a1 v2 (fun M_3 => zw 7 M_3 0 a2 v1 (fun M_4 => zb2 (L_X1_swapPlaces_29 a1 a2 v1 100000 0 M_4) (fun (x8 : Int32) (M_9 : zMm) => some M_9)))))
abbrev ww_X1_swapPlaces : List Cond := Cond.code yX1_swapPlaces cX1_swapPlaces 5 none :: wG
theorem q_X1_swapPlaces : yX1_swapPlaces.cls = RX1 ∧ yX1_swapPlaces.cls ≠ "java/lang/invoke/MethodHandle" ∧ yX1_swapPlaces.cls ≠ "java/lang/invoke/VarHandle" ∧ (parseMethodDescriptor yX1_swapPlaces.desc).map (fun d => d.parameters.length) = some 2 := by decide +kernel
set_option maxHeartbeats 4000000 in
set_option maxRecDepth 100000 in
theorem c_X1_swapPlaces (l : Launch) (D : va_G) (cI cB : ClassId) (hM : Nat → Nat) (M : zMm) (a1 : Int32) (a2 : Int32) (M0 : zMm) (hf : f_X1_swapPlaces M a1 a2 = some M0) : zMv l yX1_swapPlaces ww_X1_swapPlaces ({ frames := 0, cells := 0, slots := 0, locals := 0 } : Room) D cI cB [.ref (hM 0), .int a1, .int a2] (w1 cI cB hM M) (w1 cI cB hM M0) := by
  refine zofV (cc := cX1_swapPlaces) (maxL := 5) (ret := none) (by decide +kernel) rfl (Nat.le_of_ble_eq_true rfl) ?_
  intro p e s m below meth c A ls hx hb hml hr hown hts hlocks hK hP hD hS hA hl
  have hl : lv_has ls 5 [(0, .ref (hM 0)), (1, .int a1), (2, .int a2)] := hl
  have hown : s.vm.findClass RX1 = some m.cls := hown
  have hG : ∀ w ∈ wG, w ∈ ww_X1_swapPlaces := fun w h => List.mem_cons_of_mem _ h
  have hi1 : ∀ w ∈ wsX10, w ∈ ww_X1_swapPlaces := fun w h => List.mem_cons_of_mem _ (z_inX1 w h)
  have L29 : ∀ (l1 : Int32) (l2 : Int32) (l3 : Int32) (n : Nat) (l4 : Int32) (M : zMm) (o4 : Int32) (oM : zMm), L_X1_swapPlaces_29 l1 l2 l3 n l4 M = some (o4, oM) → zAt p l e ({ frames := 0, cells := 0, slots := 0, locals := 0 } : Room) s m [.ref (hM 0), .int a1, .int a2].toArray below meth c (MQ below (zQv D cI cB (w1 cI cB hM M0) A) [.ref (hM 0), .int a1, .int a2].toArray s 0 0 A) A D 5 (w1 cI cB hM oM) [(0, .ref (hM 0)), (1, .int l1), (2, .int l2), (3, .int l3), (4, .int o4)] 50 [] → zAt p l e ({ frames := 0, cells := 0, slots := 0, locals := 0 } : Room) s m [.ref (hM 0), .int a1, .int a2].toArray below meth c (MQ below (zQv D cI cB (w1 cI cB hM M0) A) [.ref (hM 0), .int a1, .int a2].toArray s 0 0 A) A D 5 (w1 cI cB hM M) [(0, .ref (hM 0)), (1, .int l1), (2, .int l2), (3, .int l3), (4, .int l4)] 29 [] := by
    intro l1 l2 l3 n
    induction n with
    | zero => intro l4 M o4 oM hf; simp [L_X1_swapPlaces_29] at hf
    | succ n ih =>
      intro l4 M o4 oM hf hk H locs ls hP hD hS hl
      rw [L_X1_swapPlaces_29] at hf
      refine lv_iload hx hb dX1_swapPlaces_29 (lv_at hl 4 rfl) ?_
      refine lv_bipush (v := 7) hx hb dX1_swapPlaces_31 (by decide) ?_
      refine lv_icmp_ge (tgt := 50) hx hb dX1_swapPlaces_33 (by decide) (fun c_5 => ?_) (fun c_5 => ?_)
      · replace hf := zit c_5 hf
        cases hf
        exact hk _ _ _ hP hD hS (lv_sub hl [0, 1, 2, 3, 4] rfl)
      · replace hf := zif c_5 hf
        refine lv_aload_n hx hb dX1_swapPlaces_36 rfl (lv_at hl 0 rfl) ?_
        refine va_get (D := D) (ci := 1) (v := .ref (hM 2)) (C := RX1) (T := TX1) (N := 2) hx hb hts hi1 hown hK hP 0 rfl rfl 1 (Nat.le_of_ble_eq_true rfl) (hts _ (List.mem_cons_of_mem _ wd_55)) (fun _ h9 => h9) rfl dX1_swapPlaces_37 ?_
        refine lv_iload hx hb dX1_swapPlaces_40 (lv_at hl 4 rfl) ?_
        refine lv_iconst (v := 0) hx hb dX1_swapPlaces_42 (by decide) ?_
        obtain ⟨i_M_6, M_6, e_M_6, hf⟩ := zw_some hf
        refine va_iast (n := 7) (f := M 1) (cA := cI) hx hb hK hP hD hS 2 0 rfl rfl i_M_6 dX1_swapPlaces_43 (fun H locs hP hD hS => ?_)
        have hP : va_P D vwCl (w1 cI cB hM (zs M 1 (upd (M 1) l4.toNatClampNeg 0))) H := hP
        have hD : va_D A (w1 cI cB hM (zs M 1 (upd (M 1) l4.toNatClampNeg 0))) := hD
        rw [← e_M_6] at hP hD
        obtain ⟨x7, e_x7, hf⟩ := zv_some hf
        refine lv_iinc (v := x7) (lv' := [(4, .int x7), (0, .ref (hM 0)), (1, .int l1), (2, .int l2), (3, .int l3)]) hx hb dX1_swapPlaces_44 hl (k := 4) rfl (by rw [e_x7]; rfl) (by decide) rfl (fun ls hl => ?_)
        refine lv_goto (tgt := 29) hx hb dX1_swapPlaces_47 (by decide) ?_
        exact ih _ _ _ _ hf hk _ _ _ hP hD hS (lv_sub hl [1, 2, 3, 4, 0] rfl)
  unfold f_X1_swapPlaces at hf
  refine lv_aload_n hx hb dX1_swapPlaces_0 rfl (lv_at hl 0 rfl) ?_
  refine va_get (D := D) (ci := 1) (v := .ref (hM 1)) (C := RX1) (T := TX1) (N := 2) hx hb hts hi1 hown hK hP 0 rfl rfl 0 (Nat.le_of_ble_eq_true rfl) (hts _ (List.mem_cons_of_mem _ wd_53)) (fun _ h9 => h9) rfl dX1_swapPlaces_1 ?_
  refine lv_iload_n hx hb dX1_swapPlaces_4 rfl (lv_at hl 1 rfl) ?_
  obtain ⟨i_v1, v1, e_v1, hf⟩ := zl_some hf
  refine va_iald (n := 7) (f := M 0) (cA := cI) hx hb hK hP 1 0 rfl rfl i_v1 dX1_swapPlaces_5 ?_
  refine zt e_v1 ?_
  refine lv_istore_n (lv' := [(3, .int v1), (0, .ref (hM 0)), (1, .int a1), (2, .int a2)]) hx hb dX1_swapPlaces_6 rfl hl (by decide) rfl (fun ls hl => ?_)
  refine lv_aload_n hx hb dX1_swapPlaces_7 rfl (lv_at hl 1 rfl) ?_
  refine va_get (D := D) (ci := 1) (v := .ref (hM 1)) (C := RX1) (T := TX1) (N := 2) hx hb hts hi1 hown hK hP 0 rfl rfl 0 (Nat.le_of_ble_eq_true rfl) (hts _ (List.mem_cons_of_mem _ wd_53)) (fun _ h9 => h9) rfl dX1_swapPlaces_8 ?_
  refine lv_iload_n hx hb dX1_swapPlaces_11 rfl (lv_at hl 2 rfl) ?_
  refine lv_aload_n hx hb dX1_swapPlaces_12 rfl (lv_at hl 1 rfl) ?_
  refine va_get (D := D) (ci := 1) (v := .ref (hM 1)) (C := RX1) (T := TX1) (N := 2) hx hb hts hi1 hown hK hP 0 rfl rfl 0 (Nat.le_of_ble_eq_true rfl) (hts _ (List.mem_cons_of_mem _ wd_53)) (fun _ h9 => h9) rfl dX1_swapPlaces_13 ?_
  refine lv_iload_n hx hb dX1_swapPlaces_16 rfl (lv_at hl 3 rfl) ?_
  obtain ⟨i_v2, v2, e_v2, hf⟩ := zl_some hf
  refine va_iald (n := 7) (f := M 0) (cA := cI) hx hb hK hP 1 0 rfl rfl i_v2 dX1_swapPlaces_17 ?_
  refine zt e_v2 ?_
  obtain ⟨i_M_3, M_3, e_M_3, hf⟩ := zw_some hf
  refine va_iast (n := 7) (f := M 0) (cA := cI) hx hb hK hP hD hS 1 0 rfl rfl i_M_3 dX1_swapPlaces_18 (fun H locs hP hD hS => ?_)
  have hP : va_P D vwCl (w1 cI cB hM (zs M 0 (upd (M 0) a1.toNatClampNeg v2))) H := hP
  have hD : va_D A (w1 cI cB hM (zs M 0 (upd (M 0) a1.toNatClampNeg v2))) := hD
  rw [← e_M_3] at hP hD
  refine lv_aload_n hx hb dX1_swapPlaces_19 rfl (lv_at hl 1 rfl) ?_
  refine va_get (D := D) (ci := 1) (v := .ref (hM 1)) (C := RX1) (T := TX1) (N := 2) hx hb hts hi1 hown hK hP 0 rfl rfl 0 (Nat.le_of_ble_eq_true rfl) (hts _ (List.mem_cons_of_mem _ wd_53)) (fun _ h9 => h9) rfl dX1_swapPlaces_20 ?_
  refine lv_iload_n hx hb dX1_swapPlaces_23 rfl (lv_at hl 3 rfl) ?_
  refine lv_iload_n hx hb dX1_swapPlaces_24 rfl (lv_at hl 0 rfl) ?_
  obtain ⟨i_M_4, M_4, e_M_4, hf⟩ := zw_some hf
  refine va_iast (n := 7) (f := M_3 0) (cA := cI) hx hb hK hP hD hS 1 0 rfl rfl i_M_4 dX1_swapPlaces_25 (fun H locs hP hD hS => ?_)
  have hP : va_P D vwCl (w1 cI cB hM (zs M_3 0 (upd (M_3 0) a2.toNatClampNeg v1))) H := hP
  have hD : va_D A (w1 cI cB hM (zs M_3 0 (upd (M_3 0) a2.toNatClampNeg v1))) := hD
  rw [← e_M_4] at hP hD
  refine lv_iconst (v := 0) hx hb dX1_swapPlaces_26 (by decide) ?_
  refine lv_istore (lv' := [(4, .int 0), (3, .int v1), (0, .ref (hM 0)), (1, .int a1), (2, .int a2)]) hx hb dX1_swapPlaces_27 hl (by decide) rfl (fun ls hl => ?_)
  obtain ⟨x8, M_9, hq10, hf⟩ := zb2_some hf
  refine L29 _ _ _ _ _ _ _ _ hq10 ?_ _ _ _ hP hD hS (lv_sub hl [2, 3, 4, 1, 0] rfl)
  intro H locs ls hP hD hS hl
  cases hf
  exact zretV hx hb hr hlocks hK hP hD hS dX1_swapPlaces_50
def f_X2a_clear (M : zMm) : Option (zMm) := zv (zs M 3 (fun _ => 0)) (fun (M_1 : zMm) => some M_1)
abbrev ww_X2a_clear : List Cond := Cond.code yX2_clear cX2_clear 1 none :: wG
theorem q_X2a_clear : yX2_clear.cls = RX2 ∧ yX2_clear.cls ≠ "java/lang/invoke/MethodHandle" ∧ yX2_clear.cls ≠ "java/lang/invoke/VarHandle" ∧ (parseMethodDescriptor yX2_clear.desc).map (fun d => d.parameters.length) = some 0 := by decide +kernel
set_option maxHeartbeats 4000000 in
set_option maxRecDepth 100000 in
theorem c_X2a_clear (l : Launch) (D : va_G) (cI cB : ClassId) (hM : Nat → Nat) (M : zMm) (M0 : zMm) (hf : f_X2a_clear M = some M0) : zMv l yX2_clear ww_X2a_clear ({ frames := 0, cells := 0, slots := 0, locals := 0 } : Room) D cI cB [.ref (hM 0)] (w2a cI cB hM M) (w2a cI cB hM M0) := by
  refine zofV (cc := cX2_clear) (maxL := 1) (ret := none) (by decide +kernel) rfl (Nat.le_of_ble_eq_true rfl) ?_
  intro p e s m below meth c A ls hx hb hml hr hown hts hlocks hK hP hD hS hA hl
  have hl : lv_has ls 1 [(0, .ref (hM 0))] := hl
  have hown : s.vm.findClass RX2 = some m.cls := hown
  have hG : ∀ w ∈ wG, w ∈ ww_X2a_clear := fun w h => List.mem_cons_of_mem _ h
  have hi2 : ∀ w ∈ wsX20, w ∈ ww_X2a_clear := fun w h => List.mem_cons_of_mem _ (z_inX2 w h)
  unfold f_X2a_clear at hf
  refine lv_aload_n hx hb dX2_clear_0 rfl (lv_at hl 0 rfl) ?_
  refine lv_iconst (v := 0) hx hb dX2_clear_1 (by decide) ?_
  obtain ⟨M_1, e_M_1, hf⟩ := zv_some hf
  refine va_put (D := D) (ci := 2) (v := .int 0) (ty := .int) (C := RX2) (T := TX2) (N := 5) hx hb hts hi2 tyX2 tyX2_ok nmX2 hown hK hP hD hS 0 rfl rfl 3 (Nat.le_of_ble_eq_true rfl) (hts _ (List.mem_cons_of_mem _ wd_75)) (fun _ h9 => h9) rfl (by decide +kernel) rfl rfl (Nat.le_of_ble_eq_true rfl) dX2_clear_2 (fun H locs hP hD hS => ?_)
  have hP : va_P D vwCl (w2a cI cB hM (zs M 3 (fun _ => 0))) H := hP
  have hD : va_D A (w2a cI cB hM (zs M 3 (fun _ => 0))) := hD
  rw [← e_M_1] at hP hD
  cases hf
  exact zretV hx hb hr hlocks hK hP hD hS dX2_clear_5
def L_X2a_push_2 (P1 : zMm)  : Nat → Int32 → zMm → Option (Int32 × zMm)
  | 0, _, _ => none
  | n + 1, l2, M => if (7 : Int32) ≤ l2 then some (l2, M) else zl 7 (P1 0) l2 (fun v2 => zw 56 M 1 (((M 4 0) * 7) + l2) v2 (fun M_3 => zl 7 (P1 1) l2 (fun v4 => zw 56 M_3 2 (((M_3 4 0) * 7) + l2) v4 (fun M_5 => zv (l2 + 1) (fun (x6 : Int32) => L_X2a_push_2 P1 n x6 M_5)))))
def f_X2a_push (M : zMm) (P1 : zMm) : Option (zMm) := zb2 (L_X2a_push_2 P1 100000 0 M) (fun (x7 : Int32) (M_8 : zMm) => zb1 (if (M_8 0 0) ≤ ((M_8 4 0) + 1) then some (0 : Int32) else some ((M_8 4 0) + 1)) (fun (y11 : Int32) => zv (zs M_8 4 (fun _ => y11)) (fun (M_14 : zMm) => zv (if (M_14 0 0) < ((M_14 3 0) + 1) then (M_14 0 0) else ((M_14 3 0) + 1)) (fun (x15 : Int32) => zv (zs M_14 3 (fun _ => x15)) (fun (M_16 : zMm) => some M_16)))))
abbrev ww_X2a_push : List Cond := Cond.code yX2_push cX2_push 3 none :: wG
theorem q_X2a_push : yX2_push.cls = RX2 ∧ yX2_push.cls ≠ "java/lang/invoke/MethodHandle" ∧ yX2_push.cls ≠ "java/lang/invoke/VarHandle" ∧ (parseMethodDescriptor yX2_push.desc).map (fun d => d.parameters.length) = some 1 := by decide +kernel
set_option maxHeartbeats 4000000 in
set_option maxRecDepth 100000 in
theorem c_X2a_push (l : Launch) (D : va_G) (cI cB : ClassId) (hM : Nat → Nat) (hP1 : Nat → Nat) (M : zMm) (P1 : zMm) (M0 : zMm) (hf : f_X2a_push M P1 = some M0) : zMv l yX2_push ww_X2a_push ({ frames := 1, cells := 0, slots := 0, locals := 21 } : Room) D cI cB [.ref (hM 0), .ref (hP1 0)] (w2a cI cB hM M ++ w1 cI cB hP1 P1) (w2a cI cB hM M0 ++ w1 cI cB hP1 P1) := by
  refine zofV (cc := cX2_push) (maxL := 3) (ret := none) (by decide +kernel) rfl (Nat.le_of_ble_eq_true rfl) ?_
  intro p e s m below meth c A ls hx hb hml hr hown hts hlocks hK hP hD hS hA hl
  have hl : lv_has ls 3 [(0, .ref (hM 0)), (1, .ref (hP1 0))] := hl
  have hown : s.vm.findClass RX2 = some m.cls := hown
  have hG : ∀ w ∈ wG, w ∈ ww_X2a_push := fun w h => List.mem_cons_of_mem _ h
  have hi1 : ∀ w ∈ wsX10, w ∈ ww_X2a_push := fun w h => List.mem_cons_of_mem _ (z_inX1 w h)
  have hi2 : ∀ w ∈ wsX20, w ∈ ww_X2a_push := fun w h => List.mem_cons_of_mem _ (z_inX2 w h)
  have L2 : ∀ (P1 : zMm)  (n : Nat) (l2 : Int32) (M : zMm) (o2 : Int32) (oM : zMm), L_X2a_push_2 P1 n l2 M = some (o2, oM) → zAt p l e ({ frames := 1, cells := 0, slots := 0, locals := 21 } : Room) s m [.ref (hM 0), .ref (hP1 0)].toArray below meth c (MQ below (zQv D cI cB (w2a cI cB hM M0 ++ w1 cI cB hP1 P1) A) [.ref (hM 0), .ref (hP1 0)].toArray s 0 0 A) A D 3 (w2a cI cB hM oM ++ w1 cI cB hP1 P1) [(0, .ref (hM 0)), (1, .ref (hP1 0)), (2, .int o2)] 54 [] → zAt p l e ({ frames := 1, cells := 0, slots := 0, locals := 21 } : Room) s m [.ref (hM 0), .ref (hP1 0)].toArray below meth c (MQ below (zQv D cI cB (w2a cI cB hM M0 ++ w1 cI cB hP1 P1) A) [.ref (hM 0), .ref (hP1 0)].toArray s 0 0 A) A D 3 (w2a cI cB hM M ++ w1 cI cB hP1 P1) [(0, .ref (hM 0)), (1, .ref (hP1 0)), (2, .int l2)] 2 [] := by
    intro P1 n
    induction n with
    | zero => intro l2 M o2 oM hf; simp [L_X2a_push_2] at hf
    | succ n ih =>
      intro l2 M o2 oM hf hk H locs ls hP hD hS hl
      rw [L_X2a_push_2] at hf
      refine lv_iload_n hx hb dX2_push_2 rfl (lv_at hl 2 rfl) ?_
      refine lv_bipush (v := 7) hx hb dX2_push_3 (by decide) ?_
      refine lv_icmp_ge (tgt := 54) hx hb dX2_push_5 (by decide) (fun c_1 => ?_) (fun c_1 => ?_)
      · replace hf := zit c_1 hf
        cases hf
        exact hk _ _ _ hP hD hS (lv_sub hl [0, 1, 2] rfl)
      · replace hf := zif c_1 hf
        refine lv_aload_n hx hb dX2_push_8 rfl (lv_at hl 0 rfl) ?_
        refine va_get (D := D) (ci := 2) (v := .ref (hM 1)) (C := RX2) (T := TX2) (N := 5) hx hb hts hi2 hown hK hP 0 rfl rfl 1 (Nat.le_of_ble_eq_true rfl) (hts _ (List.mem_cons_of_mem _ wd_73)) (fun _ h9 => h9) rfl dX2_push_9 ?_
        refine lv_aload_n hx hb dX2_push_12 rfl (lv_at hl 0 rfl) ?_
        refine va_get (D := D) (ci := 2) (v := .int (M 4 0)) (C := RX2) (T := TX2) (N := 5) hx hb hts hi2 hown hK hP 0 rfl rfl 4 (Nat.le_of_ble_eq_true rfl) (hts _ (List.mem_cons_of_mem _ wd_77)) (fun _ h9 => h9) rfl dX2_push_13 ?_
        refine lv_bipush (v := 7) hx hb dX2_push_16 (by decide) ?_
        refine lv_imul hx hb dX2_push_18 ?_
        refine lv_iload_n hx hb dX2_push_19 rfl (lv_at hl 2 rfl) ?_
        refine lv_iadd hx hb dX2_push_20 ?_
        refine lv_aload_n hx hb dX2_push_21 rfl (lv_at hl 1 rfl) ?_
        refine va_get (D := D) (ci := 1) (v := .ref (hP1 1)) (C := RX1) (T := TX1) (N := 2) hx hb hts hi1 hown hK hP 3 rfl rfl 0 (Nat.le_of_ble_eq_true rfl) (hts _ (List.mem_cons_of_mem _ wd_54)) (fun _ h9 => h9) rfl dX2_push_22 ?_
        refine lv_iload_n hx hb dX2_push_25 rfl (lv_at hl 2 rfl) ?_
        obtain ⟨i_v2, v2, e_v2, hf⟩ := zl_some hf
        refine va_iald (n := 7) (f := P1 0) (cA := cI) hx hb hK hP 4 0 rfl rfl i_v2 dX2_push_26 ?_
        refine zt e_v2 ?_
        obtain ⟨i_M_3, M_3, e_M_3, hf⟩ := zw_some hf
        refine va_iast (n := 56) (f := M 1) (cA := cI) hx hb hK hP hD hS 1 0 rfl rfl i_M_3 dX2_push_27 (fun H locs hP hD hS => ?_)
        have hP : va_P D vwCl (w2a cI cB hM (zs M 1 (upd (M 1) (((M 4 0) * 7) + l2).toNatClampNeg v2)) ++ w1 cI cB hP1 P1) H := hP
        have hD : va_D A (w2a cI cB hM (zs M 1 (upd (M 1) (((M 4 0) * 7) + l2).toNatClampNeg v2)) ++ w1 cI cB hP1 P1) := hD
        rw [← e_M_3] at hP hD
        refine lv_aload_n hx hb dX2_push_28 rfl (lv_at hl 0 rfl) ?_
        refine va_get (D := D) (ci := 2) (v := .ref (hM 2)) (C := RX2) (T := TX2) (N := 5) hx hb hts hi2 hown hK hP 0 rfl rfl 2 (Nat.le_of_ble_eq_true rfl) (hts _ (List.mem_cons_of_mem _ wd_74)) (fun _ h9 => h9) rfl dX2_push_29 ?_
        refine lv_aload_n hx hb dX2_push_32 rfl (lv_at hl 0 rfl) ?_
        refine va_get (D := D) (ci := 2) (v := .int (M_3 4 0)) (C := RX2) (T := TX2) (N := 5) hx hb hts hi2 hown hK hP 0 rfl rfl 4 (Nat.le_of_ble_eq_true rfl) (hts _ (List.mem_cons_of_mem _ wd_77)) (fun _ h9 => h9) rfl dX2_push_33 ?_
        refine lv_bipush (v := 7) hx hb dX2_push_36 (by decide) ?_
        refine lv_imul hx hb dX2_push_38 ?_
        refine lv_iload_n hx hb dX2_push_39 rfl (lv_at hl 2 rfl) ?_
        refine lv_iadd hx hb dX2_push_40 ?_
        refine lv_aload_n hx hb dX2_push_41 rfl (lv_at hl 1 rfl) ?_
        refine va_get (D := D) (ci := 1) (v := .ref (hP1 2)) (C := RX1) (T := TX1) (N := 2) hx hb hts hi1 hown hK hP 3 rfl rfl 1 (Nat.le_of_ble_eq_true rfl) (hts _ (List.mem_cons_of_mem _ wd_56)) (fun _ h9 => h9) rfl dX2_push_42 ?_
        refine lv_iload_n hx hb dX2_push_45 rfl (lv_at hl 2 rfl) ?_
        obtain ⟨i_v4, v4, e_v4, hf⟩ := zl_some hf
        refine va_iald (n := 7) (f := P1 1) (cA := cI) hx hb hK hP 5 0 rfl rfl i_v4 dX2_push_46 ?_
        refine zt e_v4 ?_
        obtain ⟨i_M_5, M_5, e_M_5, hf⟩ := zw_some hf
        refine va_iast (n := 56) (f := M_3 2) (cA := cI) hx hb hK hP hD hS 2 0 rfl rfl i_M_5 dX2_push_47 (fun H locs hP hD hS => ?_)
        have hP : va_P D vwCl (w2a cI cB hM (zs M_3 2 (upd (M_3 2) (((M_3 4 0) * 7) + l2).toNatClampNeg v4)) ++ w1 cI cB hP1 P1) H := hP
        have hD : va_D A (w2a cI cB hM (zs M_3 2 (upd (M_3 2) (((M_3 4 0) * 7) + l2).toNatClampNeg v4)) ++ w1 cI cB hP1 P1) := hD
        rw [← e_M_5] at hP hD
        obtain ⟨x6, e_x6, hf⟩ := zv_some hf
        refine lv_iinc (v := x6) (lv' := [(2, .int x6), (0, .ref (hM 0)), (1, .ref (hP1 0))]) hx hb dX2_push_48 hl (k := 2) rfl (by rw [e_x6]; rfl) (by decide) rfl (fun ls hl => ?_)
        refine lv_goto (tgt := 2) hx hb dX2_push_51 (by decide) ?_
        exact ih _ _ _ _ hf hk _ _ _ hP hD hS (lv_sub hl [1, 2, 0] rfl)
  unfold f_X2a_push at hf
  refine lv_iconst (v := 0) hx hb dX2_push_0 (by decide) ?_
  refine lv_istore_n (lv' := [(2, .int 0), (0, .ref (hM 0)), (1, .ref (hP1 0))]) hx hb dX2_push_1 rfl hl (by decide) rfl (fun ls hl => ?_)
  obtain ⟨x7, M_8, hq9, hf⟩ := zb2_some hf
  refine L2 _ _ _ _ _ _ hq9 ?_ _ _ _ hP hD hS (lv_sub hl [1, 2, 0] rfl)
  intro H locs ls hP hD hS hl
  refine lv_aload_n hx hb dX2_push_54 rfl (lv_at hl 0 rfl) ?_
  refine lv_aload_n hx hb dX2_push_55 rfl (lv_at hl 0 rfl) ?_
  refine va_get (D := D) (ci := 2) (v := .int (M_8 4 0)) (C := RX2) (T := TX2) (N := 5) hx hb hts hi2 hown hK hP 0 rfl rfl 4 (Nat.le_of_ble_eq_true rfl) (hts _ (List.mem_cons_of_mem _ wd_77)) (fun _ h9 => h9) rfl dX2_push_56 ?_
  refine lv_iconst (v := 1) hx hb dX2_push_59 (by decide) ?_
  refine lv_iadd hx hb dX2_push_60 ?_
  refine lv_aload_n hx hb dX2_push_61 rfl (lv_at hl 0 rfl) ?_
  refine va_get (D := D) (ci := 2) (v := .int (M_8 0 0)) (C := RX2) (T := TX2) (N := 5) hx hb hts hi2 hown hK hP 0 rfl rfl 0 (Nat.le_of_ble_eq_true rfl) (hts _ (List.mem_cons_of_mem _ wd_72)) (fun _ h9 => h9) rfl dX2_push_62 ?_
  obtain ⟨y11, hq12, hf⟩ := zb1_some hf
  have J13 : zAt p l e ({ frames := 1, cells := 0, slots := 0, locals := 21 } : Room) s m [.ref (hM 0), .ref (hP1 0)].toArray below meth c (MQ below (zQv D cI cB (w2a cI cB hM M0 ++ w1 cI cB hP1 P1) A) [.ref (hM 0), .ref (hP1 0)].toArray s 0 0 A) A D 3 (w2a cI cB hM M_8 ++ w1 cI cB hP1 P1) [(0, .ref (hM 0)), (1, .ref (hP1 0)), (2, .int x7)] 78 [.int y11, .ref (hM 0)] := by
    intro H locs ls hP hD hS hl
    obtain ⟨M_14, e_M_14, hf⟩ := zv_some hf
    refine va_put (D := D) (ci := 2) (v := .int y11) (ty := .int) (C := RX2) (T := TX2) (N := 5) hx hb hts hi2 tyX2 tyX2_ok nmX2 hown hK hP hD hS 0 rfl rfl 4 (Nat.le_of_ble_eq_true rfl) (hts _ (List.mem_cons_of_mem _ wd_77)) (fun _ h9 => h9) rfl (by decide +kernel) rfl rfl (Nat.le_of_ble_eq_true rfl) dX2_push_78 (fun H locs hP hD hS => ?_)
    have hP : va_P D vwCl (w2a cI cB hM (zs M_8 4 (fun _ => y11)) ++ w1 cI cB hP1 P1) H := hP
    have hD : va_D A (w2a cI cB hM (zs M_8 4 (fun _ => y11)) ++ w1 cI cB hP1 P1) := hD
    rw [← e_M_14] at hP hD
    refine lv_aload_n hx hb dX2_push_81 rfl (lv_at hl 0 rfl) ?_
    refine lv_aload_n hx hb dX2_push_82 rfl (lv_at hl 0 rfl) ?_
    refine va_get (D := D) (ci := 2) (v := .int (M_14 3 0)) (C := RX2) (T := TX2) (N := 5) hx hb hts hi2 hown hK hP 0 rfl rfl 3 (Nat.le_of_ble_eq_true rfl) (hts _ (List.mem_cons_of_mem _ wd_75)) (fun _ h9 => h9) rfl dX2_push_83 ?_
    refine lv_iconst (v := 1) hx hb dX2_push_86 (by decide) ?_
    refine lv_iadd hx hb dX2_push_87 ?_
    refine lv_aload_n hx hb dX2_push_88 rfl (lv_at hl 0 rfl) ?_
    refine va_get (D := D) (ci := 2) (v := .int (M_14 0 0)) (C := RX2) (T := TX2) (N := 5) hx hb hts hi2 hown hK hP 0 rfl rfl 0 (Nat.le_of_ble_eq_true rfl) (hts _ (List.mem_cons_of_mem _ wd_72)) (fun _ h9 => h9) rfl dX2_push_89 ?_
    obtain ⟨x15, e_x15, hf⟩ := zv_some hf
    refine va_mmin hx hb (hml.trans hl.1.symm) hown (hts _ (List.mem_cons_of_mem _ wd_482)) (hts _ (List.mem_cons_of_mem _ wd_427)) (hts _ (List.mem_cons_of_mem _ wd_5)) (hts _ (List.mem_cons_of_mem _ wd_428)) (Nat.le_of_ble_eq_true rfl) (Nat.le_of_ble_eq_true rfl) (Nat.zero_le _) (Nat.zero_le _) dX2_push_92 ?_
    refine zt e_x15 ?_
    obtain ⟨M_16, e_M_16, hf⟩ := zv_some hf
    refine va_put (D := D) (ci := 2) (v := .int x15) (ty := .int) (C := RX2) (T := TX2) (N := 5) hx hb hts hi2 tyX2 tyX2_ok nmX2 hown hK hP hD hS 0 rfl rfl 3 (Nat.le_of_ble_eq_true rfl) (hts _ (List.mem_cons_of_mem _ wd_75)) (fun _ h9 => h9) rfl (by decide +kernel) rfl rfl (Nat.le_of_ble_eq_true rfl) dX2_push_95 (fun H locs hP hD hS => ?_)
    have hP : va_P D vwCl (w2a cI cB hM (zs M_14 3 (fun _ => x15)) ++ w1 cI cB hP1 P1) H := hP
    have hD : va_D A (w2a cI cB hM (zs M_14 3 (fun _ => x15)) ++ w1 cI cB hP1 P1) := hD
    rw [← e_M_16] at hP hD
    cases hf
    exact zretV hx hb hr hlocks hK hP hD hS dX2_push_98
  replace hf := hq12
  refine lv_icmp_ge (tgt := 77) hx hb dX2_push_65 (by decide) (fun c_10 => ?_) (fun c_10 => ?_)
  · replace hf := zit c_10 hf
    refine lv_iconst (v := 0) hx hb dX2_push_77 (by decide) ?_
    cases hf
    exact J13 _ _ _ hP hD hS (lv_sub hl [0, 1, 2] rfl)
  · replace hf := zif c_10 hf
    refine lv_aload_n hx hb dX2_push_68 rfl (lv_at hl 0 rfl) ?_
    refine va_get (D := D) (ci := 2) (v := .int (M_8 4 0)) (C := RX2) (T := TX2) (N := 5) hx hb hts hi2 hown hK hP 0 rfl rfl 4 (Nat.le_of_ble_eq_true rfl) (hts _ (List.mem_cons_of_mem _ wd_77)) (fun _ h9 => h9) rfl dX2_push_69 ?_
    refine lv_iconst (v := 1) hx hb dX2_push_72 (by decide) ?_
    refine lv_iadd hx hb dX2_push_73 ?_
    refine lv_goto (tgt := 78) hx hb dX2_push_74 (by decide) ?_
    cases hf
    exact J13 _ _ _ hP hD hS (lv_sub hl [0, 1, 2] rfl)
def L_X2a_popInto_46 (M : zMm)  : Nat → Int32 → zMm → Option (Int32 × zMm)
  | 0, _, _ => none
  | n + 1, l2, P1 => if (7 : Int32) ≤ l2 then some (l2, P1) else zl 56 (M 1) (((M 4 0) * 7) + l2) (fun v9 => zw 7 P1 0 l2 v9 (fun P1_10 => zl 56 (M 2) (((M 4 0) * 7) + l2) (fun v11 => zw 7 P1_10 1 l2 v11 (fun P1_12 => zv (l2 + 1) (fun (x13 : Int32) => L_X2a_popInto_46 M n x13 P1_12)))))
def f_X2a_popInto (M : zMm) (P1 : zMm) : Option (zMm × zMm) := if (M 3 0) = 0 then some (M, P1) else zv (zs M 3 (fun _ => (M 3 0) - 1)) (fun (M_2 : zMm) => zb1 (if (M_2 4 0) ≤ 0 then some ((M_2 0 0) - 1) else some ((M_2 4 0) - 1)) (fun (y4 : Int32) => zv (zs M_2 4 (fun _ => y4)) (fun (M_7 : zMm) => zb2 (L_X2a_popInto_46 M_7 100000 0 P1) (fun (x14 : Int32) (P1_15 : zMm) => some (M_7, P1_15)))))
abbrev ww_X2a_popInto : List Cond := Cond.code yX2_popInto cX2_popInto 3 none :: wG
theorem q_X2a_popInto : yX2_popInto.cls = RX2 ∧ yX2_popInto.cls ≠ "java/lang/invoke/MethodHandle" ∧ yX2_popInto.cls ≠ "java/lang/invoke/VarHandle" ∧ (parseMethodDescriptor yX2_popInto.desc).map (fun d => d.parameters.length) = some 1 := by decide +kernel
set_option maxHeartbeats 4000000 in
set_option maxRecDepth 100000 in
theorem c_X2a_popInto (l : Launch) (D : va_G) (cI cB : ClassId) (hM : Nat → Nat) (hP1 : Nat → Nat) (M : zMm) (P1 : zMm) (M0 : zMm) (P10 : zMm) (hf : f_X2a_popInto M P1 = some (M0, P10)) : zMv l yX2_popInto ww_X2a_popInto ({ frames := 0, cells := 0, slots := 0, locals := 0 } : Room) D cI cB [.ref (hM 0), .ref (hP1 0)] (w2a cI cB hM M ++ w1 cI cB hP1 P1) (w2a cI cB hM M0 ++ w1 cI cB hP1 P10) := by
  refine zofV (cc := cX2_popInto) (maxL := 3) (ret := none) (by decide +kernel) rfl (Nat.le_of_ble_eq_true rfl) ?_
  intro p e s m below meth c A ls hx hb hml hr hown hts hlocks hK hP hD hS hA hl
  have hl : lv_has ls 3 [(0, .ref (hM 0)), (1, .ref (hP1 0))] := hl
  have hown : s.vm.findClass RX2 = some m.cls := hown
  have hG : ∀ w ∈ wG, w ∈ ww_X2a_popInto := fun w h => List.mem_cons_of_mem _ h
  have hi1 : ∀ w ∈ wsX10, w ∈ ww_X2a_popInto := fun w h => List.mem_cons_of_mem _ (z_inX1 w h)
  have hi2 : ∀ w ∈ wsX20, w ∈ ww_X2a_popInto := fun w h => List.mem_cons_of_mem _ (z_inX2 w h)
  have L46 : ∀ (M : zMm)  (n : Nat) (l2 : Int32) (P1 : zMm) (o2 : Int32) (oP1 : zMm), L_X2a_popInto_46 M n l2 P1 = some (o2, oP1) → zAt p l e ({ frames := 0, cells := 0, slots := 0, locals := 0 } : Room) s m [.ref (hM 0), .ref (hP1 0)].toArray below meth c (MQ below (zQv D cI cB (w2a cI cB hM M0 ++ w1 cI cB hP1 P10) A) [.ref (hM 0), .ref (hP1 0)].toArray s 0 0 A) A D 3 (w2a cI cB hM M ++ w1 cI cB hP1 oP1) [(0, .ref (hM 0)), (1, .ref (hP1 0)), (2, .int o2)] 98 [] → zAt p l e ({ frames := 0, cells := 0, slots := 0, locals := 0 } : Room) s m [.ref (hM 0), .ref (hP1 0)].toArray below meth c (MQ below (zQv D cI cB (w2a cI cB hM M0 ++ w1 cI cB hP1 P10) A) [.ref (hM 0), .ref (hP1 0)].toArray s 0 0 A) A D 3 (w2a cI cB hM M ++ w1 cI cB hP1 P1) [(0, .ref (hM 0)), (1, .ref (hP1 0)), (2, .int l2)] 46 [] := by
    intro M n
    induction n with
    | zero => intro l2 P1 o2 oP1 hf; simp [L_X2a_popInto_46] at hf
    | succ n ih =>
      intro l2 P1 o2 oP1 hf hk H locs ls hP hD hS hl
      rw [L_X2a_popInto_46] at hf
      refine lv_iload_n hx hb dX2_popInto_46 rfl (lv_at hl 2 rfl) ?_
      refine lv_bipush (v := 7) hx hb dX2_popInto_47 (by decide) ?_
      refine lv_icmp_ge (tgt := 98) hx hb dX2_popInto_49 (by decide) (fun c_8 => ?_) (fun c_8 => ?_)
      · replace hf := zit c_8 hf
        cases hf
        exact hk _ _ _ hP hD hS (lv_sub hl [0, 1, 2] rfl)
      · replace hf := zif c_8 hf
        refine lv_aload_n hx hb dX2_popInto_52 rfl (lv_at hl 1 rfl) ?_
        refine va_get (D := D) (ci := 1) (v := .ref (hP1 1)) (C := RX1) (T := TX1) (N := 2) hx hb hts hi1 hown hK hP 3 rfl rfl 0 (Nat.le_of_ble_eq_true rfl) (hts _ (List.mem_cons_of_mem _ wd_54)) (fun _ h9 => h9) rfl dX2_popInto_53 ?_
        refine lv_iload_n hx hb dX2_popInto_56 rfl (lv_at hl 2 rfl) ?_
        refine lv_aload_n hx hb dX2_popInto_57 rfl (lv_at hl 0 rfl) ?_
        refine va_get (D := D) (ci := 2) (v := .ref (hM 1)) (C := RX2) (T := TX2) (N := 5) hx hb hts hi2 hown hK hP 0 rfl rfl 1 (Nat.le_of_ble_eq_true rfl) (hts _ (List.mem_cons_of_mem _ wd_73)) (fun _ h9 => h9) rfl dX2_popInto_58 ?_
        refine lv_aload_n hx hb dX2_popInto_61 rfl (lv_at hl 0 rfl) ?_
        refine va_get (D := D) (ci := 2) (v := .int (M 4 0)) (C := RX2) (T := TX2) (N := 5) hx hb hts hi2 hown hK hP 0 rfl rfl 4 (Nat.le_of_ble_eq_true rfl) (hts _ (List.mem_cons_of_mem _ wd_77)) (fun _ h9 => h9) rfl dX2_popInto_62 ?_
        refine lv_bipush (v := 7) hx hb dX2_popInto_65 (by decide) ?_
        refine lv_imul hx hb dX2_popInto_67 ?_
        refine lv_iload_n hx hb dX2_popInto_68 rfl (lv_at hl 2 rfl) ?_
        refine lv_iadd hx hb dX2_popInto_69 ?_
        obtain ⟨i_v9, v9, e_v9, hf⟩ := zl_some hf
        refine va_iald (n := 56) (f := M 1) (cA := cI) hx hb hK hP 1 0 rfl rfl i_v9 dX2_popInto_70 ?_
        refine zt e_v9 ?_
        obtain ⟨i_P1_10, P1_10, e_P1_10, hf⟩ := zw_some hf
        refine va_iast (n := 7) (f := P1 0) (cA := cI) hx hb hK hP hD hS 4 0 rfl rfl i_P1_10 dX2_popInto_71 (fun H locs hP hD hS => ?_)
        have hP : va_P D vwCl (w2a cI cB hM M ++ w1 cI cB hP1 (zs P1 0 (upd (P1 0) l2.toNatClampNeg v9))) H := hP
        have hD : va_D A (w2a cI cB hM M ++ w1 cI cB hP1 (zs P1 0 (upd (P1 0) l2.toNatClampNeg v9))) := hD
        rw [← e_P1_10] at hP hD
        refine lv_aload_n hx hb dX2_popInto_72 rfl (lv_at hl 1 rfl) ?_
        refine va_get (D := D) (ci := 1) (v := .ref (hP1 2)) (C := RX1) (T := TX1) (N := 2) hx hb hts hi1 hown hK hP 3 rfl rfl 1 (Nat.le_of_ble_eq_true rfl) (hts _ (List.mem_cons_of_mem _ wd_56)) (fun _ h9 => h9) rfl dX2_popInto_73 ?_
        refine lv_iload_n hx hb dX2_popInto_76 rfl (lv_at hl 2 rfl) ?_
        refine lv_aload_n hx hb dX2_popInto_77 rfl (lv_at hl 0 rfl) ?_
        refine va_get (D := D) (ci := 2) (v := .ref (hM 2)) (C := RX2) (T := TX2) (N := 5) hx hb hts hi2 hown hK hP 0 rfl rfl 2 (Nat.le_of_ble_eq_true rfl) (hts _ (List.mem_cons_of_mem _ wd_74)) (fun _ h9 => h9) rfl dX2_popInto_78 ?_
        refine lv_aload_n hx hb dX2_popInto_81 rfl (lv_at hl 0 rfl) ?_
        refine va_get (D := D) (ci := 2) (v := .int (M 4 0)) (C := RX2) (T := TX2) (N := 5) hx hb hts hi2 hown hK hP 0 rfl rfl 4 (Nat.le_of_ble_eq_true rfl) (hts _ (List.mem_cons_of_mem _ wd_77)) (fun _ h9 => h9) rfl dX2_popInto_82 ?_
        refine lv_bipush (v := 7) hx hb dX2_popInto_85 (by decide) ?_
        refine lv_imul hx hb dX2_popInto_87 ?_
        refine lv_iload_n hx hb dX2_popInto_88 rfl (lv_at hl 2 rfl) ?_
        refine lv_iadd hx hb dX2_popInto_89 ?_
        obtain ⟨i_v11, v11, e_v11, hf⟩ := zl_some hf
        refine va_iald (n := 56) (f := M 2) (cA := cI) hx hb hK hP 2 0 rfl rfl i_v11 dX2_popInto_90 ?_
        refine zt e_v11 ?_
        obtain ⟨i_P1_12, P1_12, e_P1_12, hf⟩ := zw_some hf
        refine va_iast (n := 7) (f := P1_10 1) (cA := cI) hx hb hK hP hD hS 5 0 rfl rfl i_P1_12 dX2_popInto_91 (fun H locs hP hD hS => ?_)
        have hP : va_P D vwCl (w2a cI cB hM M ++ w1 cI cB hP1 (zs P1_10 1 (upd (P1_10 1) l2.toNatClampNeg v11))) H := hP
        have hD : va_D A (w2a cI cB hM M ++ w1 cI cB hP1 (zs P1_10 1 (upd (P1_10 1) l2.toNatClampNeg v11))) := hD
        rw [← e_P1_12] at hP hD
        obtain ⟨x13, e_x13, hf⟩ := zv_some hf
        refine lv_iinc (v := x13) (lv' := [(2, .int x13), (0, .ref (hM 0)), (1, .ref (hP1 0))]) hx hb dX2_popInto_92 hl (k := 2) rfl (by rw [e_x13]; rfl) (by decide) rfl (fun ls hl => ?_)
        refine lv_goto (tgt := 46) hx hb dX2_popInto_95 (by decide) ?_
        exact ih _ _ _ _ hf hk _ _ _ hP hD hS (lv_sub hl [1, 2, 0] rfl)
  unfold f_X2a_popInto at hf
  refine lv_aload_n hx hb dX2_popInto_0 rfl (lv_at hl 0 rfl) ?_
  refine va_get (D := D) (ci := 2) (v := .int (M 3 0)) (C := RX2) (T := TX2) (N := 5) hx hb hts hi2 hown hK hP 0 rfl rfl 3 (Nat.le_of_ble_eq_true rfl) (hts _ (List.mem_cons_of_mem _ wd_75)) (fun _ h9 => h9) rfl dX2_popInto_1 ?_
  refine lv_if_ne (tgt := 8) hx hb dX2_popInto_4 (by decide) (fun c_1 => ?_) (fun c_1 => ?_)
  · replace hf := zif c_1 hf
    refine lv_aload_n hx hb dX2_popInto_8 rfl (lv_at hl 0 rfl) ?_
    refine lv_dup hx hb dX2_popInto_9 rfl ?_
    refine va_get (D := D) (ci := 2) (v := .int (M 3 0)) (C := RX2) (T := TX2) (N := 5) hx hb hts hi2 hown hK hP 0 rfl rfl 3 (Nat.le_of_ble_eq_true rfl) (hts _ (List.mem_cons_of_mem _ wd_75)) (fun _ h9 => h9) rfl dX2_popInto_10 ?_
    refine lv_iconst (v := 1) hx hb dX2_popInto_13 (by decide) ?_
    refine lv_isub hx hb dX2_popInto_14 ?_
    obtain ⟨M_2, e_M_2, hf⟩ := zv_some hf
    refine va_put (D := D) (ci := 2) (v := .int ((M 3 0) - 1)) (ty := .int) (C := RX2) (T := TX2) (N := 5) hx hb hts hi2 tyX2 tyX2_ok nmX2 hown hK hP hD hS 0 rfl rfl 3 (Nat.le_of_ble_eq_true rfl) (hts _ (List.mem_cons_of_mem _ wd_75)) (fun _ h9 => h9) rfl (by decide +kernel) rfl rfl (Nat.le_of_ble_eq_true rfl) dX2_popInto_15 (fun H locs hP hD hS => ?_)
    have hP : va_P D vwCl (w2a cI cB hM (zs M 3 (fun _ => (M 3 0) - 1)) ++ w1 cI cB hP1 P1) H := hP
    have hD : va_D A (w2a cI cB hM (zs M 3 (fun _ => (M 3 0) - 1)) ++ w1 cI cB hP1 P1) := hD
    rw [← e_M_2] at hP hD
    refine lv_aload_n hx hb dX2_popInto_18 rfl (lv_at hl 0 rfl) ?_
    refine lv_aload_n hx hb dX2_popInto_19 rfl (lv_at hl 0 rfl) ?_
    refine va_get (D := D) (ci := 2) (v := .int (M_2 4 0)) (C := RX2) (T := TX2) (N := 5) hx hb hts hi2 hown hK hP 0 rfl rfl 4 (Nat.le_of_ble_eq_true rfl) (hts _ (List.mem_cons_of_mem _ wd_77)) (fun _ h9 => h9) rfl dX2_popInto_20 ?_
    obtain ⟨y4, hq5, hf⟩ := zb1_some hf
    have J6 : zAt p l e ({ frames := 0, cells := 0, slots := 0, locals := 0 } : Room) s m [.ref (hM 0), .ref (hP1 0)].toArray below meth c (MQ below (zQv D cI cB (w2a cI cB hM M0 ++ w1 cI cB hP1 P10) A) [.ref (hM 0), .ref (hP1 0)].toArray s 0 0 A) A D 3 (w2a cI cB hM M_2 ++ w1 cI cB hP1 P1) [(0, .ref (hM 0)), (1, .ref (hP1 0))] 41 [.int y4, .ref (hM 0)] := by
      intro H locs ls hP hD hS hl
      obtain ⟨M_7, e_M_7, hf⟩ := zv_some hf
      refine va_put (D := D) (ci := 2) (v := .int y4) (ty := .int) (C := RX2) (T := TX2) (N := 5) hx hb hts hi2 tyX2 tyX2_ok nmX2 hown hK hP hD hS 0 rfl rfl 4 (Nat.le_of_ble_eq_true rfl) (hts _ (List.mem_cons_of_mem _ wd_77)) (fun _ h9 => h9) rfl (by decide +kernel) rfl rfl (Nat.le_of_ble_eq_true rfl) dX2_popInto_41 (fun H locs hP hD hS => ?_)
      have hP : va_P D vwCl (w2a cI cB hM (zs M_2 4 (fun _ => y4)) ++ w1 cI cB hP1 P1) H := hP
      have hD : va_D A (w2a cI cB hM (zs M_2 4 (fun _ => y4)) ++ w1 cI cB hP1 P1) := hD
      rw [← e_M_7] at hP hD
      refine lv_iconst (v := 0) hx hb dX2_popInto_44 (by decide) ?_
      refine lv_istore_n (lv' := [(2, .int 0), (0, .ref (hM 0)), (1, .ref (hP1 0))]) hx hb dX2_popInto_45 rfl hl (by decide) rfl (fun ls hl => ?_)
      obtain ⟨x14, P1_15, hq16, hf⟩ := zb2_some hf
      refine L46 _ _ _ _ _ _ hq16 ?_ _ _ _ hP hD hS (lv_sub hl [1, 2, 0] rfl)
      intro H locs ls hP hD hS hl
      cases hf
      exact zretV hx hb hr hlocks hK hP hD hS dX2_popInto_98
    replace hf := hq5
    refine lv_if_le (tgt := 35) hx hb dX2_popInto_23 (by decide) (fun c_3 => ?_) (fun c_3 => ?_)
    · replace hf := zit c_3 hf
      refine lv_aload_n hx hb dX2_popInto_35 rfl (lv_at hl 0 rfl) ?_
      refine va_get (D := D) (ci := 2) (v := .int (M_2 0 0)) (C := RX2) (T := TX2) (N := 5) hx hb hts hi2 hown hK hP 0 rfl rfl 0 (Nat.le_of_ble_eq_true rfl) (hts _ (List.mem_cons_of_mem _ wd_72)) (fun _ h9 => h9) rfl dX2_popInto_36 ?_
      refine lv_iconst (v := 1) hx hb dX2_popInto_39 (by decide) ?_
      refine lv_isub hx hb dX2_popInto_40 ?_
      cases hf
      exact J6 _ _ _ hP hD hS (lv_sub hl [0, 1] rfl)
    · replace hf := zif c_3 hf
      refine lv_aload_n hx hb dX2_popInto_26 rfl (lv_at hl 0 rfl) ?_
      refine va_get (D := D) (ci := 2) (v := .int (M_2 4 0)) (C := RX2) (T := TX2) (N := 5) hx hb hts hi2 hown hK hP 0 rfl rfl 4 (Nat.le_of_ble_eq_true rfl) (hts _ (List.mem_cons_of_mem _ wd_77)) (fun _ h9 => h9) rfl dX2_popInto_27 ?_
      refine lv_iconst (v := 1) hx hb dX2_popInto_30 (by decide) ?_
      refine lv_isub hx hb dX2_popInto_31 ?_
      refine lv_goto (tgt := 41) hx hb dX2_popInto_32 (by decide) ?_
      cases hf
      exact J6 _ _ _ hP hD hS (lv_sub hl [0, 1] rfl)
  · replace hf := zit c_1 hf
    cases hf
    exact zretV hx hb hr hlocks hK hP hD hS dX2_popInto_7
def f_X2b_clear (M : zMm) : Option (zMm) := zv (zs M 3 (fun _ => 0)) (fun (M_1 : zMm) => some M_1)
abbrev ww_X2b_clear : List Cond := Cond.code yX2_clear cX2_clear 1 none :: wG
theorem q_X2b_clear : yX2_clear.cls = RX2 ∧ yX2_clear.cls ≠ "java/lang/invoke/MethodHandle" ∧ yX2_clear.cls ≠ "java/lang/invoke/VarHandle" ∧ (parseMethodDescriptor yX2_clear.desc).map (fun d => d.parameters.length) = some 0 := by decide +kernel
set_option maxHeartbeats 4000000 in
set_option maxRecDepth 100000 in
theorem c_X2b_clear (l : Launch) (D : va_G) (cI cB : ClassId) (hM : Nat → Nat) (M : zMm) (M0 : zMm) (hf : f_X2b_clear M = some M0) : zMv l yX2_clear ww_X2b_clear ({ frames := 0, cells := 0, slots := 0, locals := 0 } : Room) D cI cB [.ref (hM 0)] (w2b cI cB hM M) (w2b cI cB hM M0) := by
  refine zofV (cc := cX2_clear) (maxL := 1) (ret := none) (by decide +kernel) rfl (Nat.le_of_ble_eq_true rfl) ?_
  intro p e s m below meth c A ls hx hb hml hr hown hts hlocks hK hP hD hS hA hl
  have hl : lv_has ls 1 [(0, .ref (hM 0))] := hl
  have hown : s.vm.findClass RX2 = some m.cls := hown
  have hG : ∀ w ∈ wG, w ∈ ww_X2b_clear := fun w h => List.mem_cons_of_mem _ h
  have hi2 : ∀ w ∈ wsX20, w ∈ ww_X2b_clear := fun w h => List.mem_cons_of_mem _ (z_inX2 w h)
  unfold f_X2b_clear at hf
  refine lv_aload_n hx hb dX2_clear_0 rfl (lv_at hl 0 rfl) ?_
  refine lv_iconst (v := 0) hx hb dX2_clear_1 (by decide) ?_
  obtain ⟨M_1, e_M_1, hf⟩ := zv_some hf
  refine va_put (D := D) (ci := 2) (v := .int 0) (ty := .int) (C := RX2) (T := TX2) (N := 5) hx hb hts hi2 tyX2 tyX2_ok nmX2 hown hK hP hD hS 0 rfl rfl 3 (Nat.le_of_ble_eq_true rfl) (hts _ (List.mem_cons_of_mem _ wd_75)) (fun _ h9 => h9) rfl (by decide +kernel) rfl rfl (Nat.le_of_ble_eq_true rfl) dX2_clear_2 (fun H locs hP hD hS => ?_)
  have hP : va_P D vwCl (w2b cI cB hM (zs M 3 (fun _ => 0))) H := hP
  have hD : va_D A (w2b cI cB hM (zs M 3 (fun _ => 0))) := hD
  rw [← e_M_1] at hP hD
  cases hf
  exact zretV hx hb hr hlocks hK hP hD hS dX2_clear_5
def L_X2b_push_2 (P1 : zMm)  : Nat → Int32 → zMm → Option (Int32 × zMm)
  | 0, _, _ => none
  | n + 1, l2, M => if (7 : Int32) ≤ l2 then some (l2, M) else zl 7 (P1 0) l2 (fun v2 => zw 14 M 1 (((M 4 0) * 7) + l2) v2 (fun M_3 => zl 7 (P1 1) l2 (fun v4 => zw 14 M_3 2 (((M_3 4 0) * 7) + l2) v4 (fun M_5 => zv (l2 + 1) (fun (x6 : Int32) => L_X2b_push_2 P1 n x6 M_5)))))
def f_X2b_push (M : zMm) (P1 : zMm) : Option (zMm) := zb2 (L_X2b_push_2 P1 100000 0 M) (fun (x7 : Int32) (M_8 : zMm) => zb1 (if (M_8 0 0) ≤ ((M_8 4 0) + 1) then some (0 : Int32) else some ((M_8 4 0) + 1)) (fun (y11 : Int32) => zv (zs M_8 4 (fun _ => y11)) (fun (M_14 : zMm) => zv (if (M_14 0 0) < ((M_14 3 0) + 1) then (M_14 0 0) else ((M_14 3 0) + 1)) (fun (x15 : Int32) => zv (zs M_14 3 (fun _ => x15)) (fun (M_16 : zMm) => some M_16)))))
abbrev ww_X2b_push : List Cond := Cond.code yX2_push cX2_push 3 none :: wG
theorem q_X2b_push : yX2_push.cls = RX2 ∧ yX2_push.cls ≠ "java/lang/invoke/MethodHandle" ∧ yX2_push.cls ≠ "java/lang/invoke/VarHandle" ∧ (parseMethodDescriptor yX2_push.desc).map (fun d => d.parameters.length) = some 1 := by decide +kernel
set_option maxHeartbeats 4000000 in
set_option maxRecDepth 100000 in
theorem c_X2b_push (l : Launch) (D : va_G) (cI cB : ClassId) (hM : Nat → Nat) (hP1 : Nat → Nat) (M : zMm) (P1 : zMm) (M0 : zMm) (hf : f_X2b_push M P1 = some M0) : zMv l yX2_push ww_X2b_push ({ frames := 1, cells := 0, slots := 0, locals := 21 } : Room) D cI cB [.ref (hM 0), .ref (hP1 0)] (w2b cI cB hM M ++ w1 cI cB hP1 P1) (w2b cI cB hM M0 ++ w1 cI cB hP1 P1) := by
  refine zofV (cc := cX2_push) (maxL := 3) (ret := none) (by decide +kernel) rfl (Nat.le_of_ble_eq_true rfl) ?_
  intro p e s m below meth c A ls hx hb hml hr hown hts hlocks hK hP hD hS hA hl
  have hl : lv_has ls 3 [(0, .ref (hM 0)), (1, .ref (hP1 0))] := hl
  have hown : s.vm.findClass RX2 = some m.cls := hown
  have hG : ∀ w ∈ wG, w ∈ ww_X2b_push := fun w h => List.mem_cons_of_mem _ h
  have hi1 : ∀ w ∈ wsX10, w ∈ ww_X2b_push := fun w h => List.mem_cons_of_mem _ (z_inX1 w h)
  have hi2 : ∀ w ∈ wsX20, w ∈ ww_X2b_push := fun w h => List.mem_cons_of_mem _ (z_inX2 w h)
  have L2 : ∀ (P1 : zMm)  (n : Nat) (l2 : Int32) (M : zMm) (o2 : Int32) (oM : zMm), L_X2b_push_2 P1 n l2 M = some (o2, oM) → zAt p l e ({ frames := 1, cells := 0, slots := 0, locals := 21 } : Room) s m [.ref (hM 0), .ref (hP1 0)].toArray below meth c (MQ below (zQv D cI cB (w2b cI cB hM M0 ++ w1 cI cB hP1 P1) A) [.ref (hM 0), .ref (hP1 0)].toArray s 0 0 A) A D 3 (w2b cI cB hM oM ++ w1 cI cB hP1 P1) [(0, .ref (hM 0)), (1, .ref (hP1 0)), (2, .int o2)] 54 [] → zAt p l e ({ frames := 1, cells := 0, slots := 0, locals := 21 } : Room) s m [.ref (hM 0), .ref (hP1 0)].toArray below meth c (MQ below (zQv D cI cB (w2b cI cB hM M0 ++ w1 cI cB hP1 P1) A) [.ref (hM 0), .ref (hP1 0)].toArray s 0 0 A) A D 3 (w2b cI cB hM M ++ w1 cI cB hP1 P1) [(0, .ref (hM 0)), (1, .ref (hP1 0)), (2, .int l2)] 2 [] := by
    intro P1 n
    induction n with
    | zero => intro l2 M o2 oM hf; simp [L_X2b_push_2] at hf
    | succ n ih =>
      intro l2 M o2 oM hf hk H locs ls hP hD hS hl
      rw [L_X2b_push_2] at hf
      refine lv_iload_n hx hb dX2_push_2 rfl (lv_at hl 2 rfl) ?_
      refine lv_bipush (v := 7) hx hb dX2_push_3 (by decide) ?_
      refine lv_icmp_ge (tgt := 54) hx hb dX2_push_5 (by decide) (fun c_1 => ?_) (fun c_1 => ?_)
      · replace hf := zit c_1 hf
        cases hf
        exact hk _ _ _ hP hD hS (lv_sub hl [0, 1, 2] rfl)
      · replace hf := zif c_1 hf
        refine lv_aload_n hx hb dX2_push_8 rfl (lv_at hl 0 rfl) ?_
        refine va_get (D := D) (ci := 2) (v := .ref (hM 1)) (C := RX2) (T := TX2) (N := 5) hx hb hts hi2 hown hK hP 0 rfl rfl 1 (Nat.le_of_ble_eq_true rfl) (hts _ (List.mem_cons_of_mem _ wd_73)) (fun _ h9 => h9) rfl dX2_push_9 ?_
        refine lv_aload_n hx hb dX2_push_12 rfl (lv_at hl 0 rfl) ?_
        refine va_get (D := D) (ci := 2) (v := .int (M 4 0)) (C := RX2) (T := TX2) (N := 5) hx hb hts hi2 hown hK hP 0 rfl rfl 4 (Nat.le_of_ble_eq_true rfl) (hts _ (List.mem_cons_of_mem _ wd_77)) (fun _ h9 => h9) rfl dX2_push_13 ?_
        refine lv_bipush (v := 7) hx hb dX2_push_16 (by decide) ?_
        refine lv_imul hx hb dX2_push_18 ?_
        refine lv_iload_n hx hb dX2_push_19 rfl (lv_at hl 2 rfl) ?_
        refine lv_iadd hx hb dX2_push_20 ?_
        refine lv_aload_n hx hb dX2_push_21 rfl (lv_at hl 1 rfl) ?_
        refine va_get (D := D) (ci := 1) (v := .ref (hP1 1)) (C := RX1) (T := TX1) (N := 2) hx hb hts hi1 hown hK hP 3 rfl rfl 0 (Nat.le_of_ble_eq_true rfl) (hts _ (List.mem_cons_of_mem _ wd_54)) (fun _ h9 => h9) rfl dX2_push_22 ?_
        refine lv_iload_n hx hb dX2_push_25 rfl (lv_at hl 2 rfl) ?_
        obtain ⟨i_v2, v2, e_v2, hf⟩ := zl_some hf
        refine va_iald (n := 7) (f := P1 0) (cA := cI) hx hb hK hP 4 0 rfl rfl i_v2 dX2_push_26 ?_
        refine zt e_v2 ?_
        obtain ⟨i_M_3, M_3, e_M_3, hf⟩ := zw_some hf
        refine va_iast (n := 14) (f := M 1) (cA := cI) hx hb hK hP hD hS 1 0 rfl rfl i_M_3 dX2_push_27 (fun H locs hP hD hS => ?_)
        have hP : va_P D vwCl (w2b cI cB hM (zs M 1 (upd (M 1) (((M 4 0) * 7) + l2).toNatClampNeg v2)) ++ w1 cI cB hP1 P1) H := hP
        have hD : va_D A (w2b cI cB hM (zs M 1 (upd (M 1) (((M 4 0) * 7) + l2).toNatClampNeg v2)) ++ w1 cI cB hP1 P1) := hD
        rw [← e_M_3] at hP hD
        refine lv_aload_n hx hb dX2_push_28 rfl (lv_at hl 0 rfl) ?_
        refine va_get (D := D) (ci := 2) (v := .ref (hM 2)) (C := RX2) (T := TX2) (N := 5) hx hb hts hi2 hown hK hP 0 rfl rfl 2 (Nat.le_of_ble_eq_true rfl) (hts _ (List.mem_cons_of_mem _ wd_74)) (fun _ h9 => h9) rfl dX2_push_29 ?_
        refine lv_aload_n hx hb dX2_push_32 rfl (lv_at hl 0 rfl) ?_
        refine va_get (D := D) (ci := 2) (v := .int (M_3 4 0)) (C := RX2) (T := TX2) (N := 5) hx hb hts hi2 hown hK hP 0 rfl rfl 4 (Nat.le_of_ble_eq_true rfl) (hts _ (List.mem_cons_of_mem _ wd_77)) (fun _ h9 => h9) rfl dX2_push_33 ?_
        refine lv_bipush (v := 7) hx hb dX2_push_36 (by decide) ?_
        refine lv_imul hx hb dX2_push_38 ?_
        refine lv_iload_n hx hb dX2_push_39 rfl (lv_at hl 2 rfl) ?_
        refine lv_iadd hx hb dX2_push_40 ?_
        refine lv_aload_n hx hb dX2_push_41 rfl (lv_at hl 1 rfl) ?_
        refine va_get (D := D) (ci := 1) (v := .ref (hP1 2)) (C := RX1) (T := TX1) (N := 2) hx hb hts hi1 hown hK hP 3 rfl rfl 1 (Nat.le_of_ble_eq_true rfl) (hts _ (List.mem_cons_of_mem _ wd_56)) (fun _ h9 => h9) rfl dX2_push_42 ?_
        refine lv_iload_n hx hb dX2_push_45 rfl (lv_at hl 2 rfl) ?_
        obtain ⟨i_v4, v4, e_v4, hf⟩ := zl_some hf
        refine va_iald (n := 7) (f := P1 1) (cA := cI) hx hb hK hP 5 0 rfl rfl i_v4 dX2_push_46 ?_
        refine zt e_v4 ?_
        obtain ⟨i_M_5, M_5, e_M_5, hf⟩ := zw_some hf
        refine va_iast (n := 14) (f := M_3 2) (cA := cI) hx hb hK hP hD hS 2 0 rfl rfl i_M_5 dX2_push_47 (fun H locs hP hD hS => ?_)
        have hP : va_P D vwCl (w2b cI cB hM (zs M_3 2 (upd (M_3 2) (((M_3 4 0) * 7) + l2).toNatClampNeg v4)) ++ w1 cI cB hP1 P1) H := hP
        have hD : va_D A (w2b cI cB hM (zs M_3 2 (upd (M_3 2) (((M_3 4 0) * 7) + l2).toNatClampNeg v4)) ++ w1 cI cB hP1 P1) := hD
        rw [← e_M_5] at hP hD
        obtain ⟨x6, e_x6, hf⟩ := zv_some hf
        refine lv_iinc (v := x6) (lv' := [(2, .int x6), (0, .ref (hM 0)), (1, .ref (hP1 0))]) hx hb dX2_push_48 hl (k := 2) rfl (by rw [e_x6]; rfl) (by decide) rfl (fun ls hl => ?_)
        refine lv_goto (tgt := 2) hx hb dX2_push_51 (by decide) ?_
        exact ih _ _ _ _ hf hk _ _ _ hP hD hS (lv_sub hl [1, 2, 0] rfl)
  unfold f_X2b_push at hf
  refine lv_iconst (v := 0) hx hb dX2_push_0 (by decide) ?_
  refine lv_istore_n (lv' := [(2, .int 0), (0, .ref (hM 0)), (1, .ref (hP1 0))]) hx hb dX2_push_1 rfl hl (by decide) rfl (fun ls hl => ?_)
  obtain ⟨x7, M_8, hq9, hf⟩ := zb2_some hf
  refine L2 _ _ _ _ _ _ hq9 ?_ _ _ _ hP hD hS (lv_sub hl [1, 2, 0] rfl)
  intro H locs ls hP hD hS hl
  refine lv_aload_n hx hb dX2_push_54 rfl (lv_at hl 0 rfl) ?_
  refine lv_aload_n hx hb dX2_push_55 rfl (lv_at hl 0 rfl) ?_
  refine va_get (D := D) (ci := 2) (v := .int (M_8 4 0)) (C := RX2) (T := TX2) (N := 5) hx hb hts hi2 hown hK hP 0 rfl rfl 4 (Nat.le_of_ble_eq_true rfl) (hts _ (List.mem_cons_of_mem _ wd_77)) (fun _ h9 => h9) rfl dX2_push_56 ?_
  refine lv_iconst (v := 1) hx hb dX2_push_59 (by decide) ?_
  refine lv_iadd hx hb dX2_push_60 ?_
  refine lv_aload_n hx hb dX2_push_61 rfl (lv_at hl 0 rfl) ?_
  refine va_get (D := D) (ci := 2) (v := .int (M_8 0 0)) (C := RX2) (T := TX2) (N := 5) hx hb hts hi2 hown hK hP 0 rfl rfl 0 (Nat.le_of_ble_eq_true rfl) (hts _ (List.mem_cons_of_mem _ wd_72)) (fun _ h9 => h9) rfl dX2_push_62 ?_
  obtain ⟨y11, hq12, hf⟩ := zb1_some hf
  have J13 : zAt p l e ({ frames := 1, cells := 0, slots := 0, locals := 21 } : Room) s m [.ref (hM 0), .ref (hP1 0)].toArray below meth c (MQ below (zQv D cI cB (w2b cI cB hM M0 ++ w1 cI cB hP1 P1) A) [.ref (hM 0), .ref (hP1 0)].toArray s 0 0 A) A D 3 (w2b cI cB hM M_8 ++ w1 cI cB hP1 P1) [(0, .ref (hM 0)), (1, .ref (hP1 0)), (2, .int x7)] 78 [.int y11, .ref (hM 0)] := by
    intro H locs ls hP hD hS hl
    obtain ⟨M_14, e_M_14, hf⟩ := zv_some hf
    refine va_put (D := D) (ci := 2) (v := .int y11) (ty := .int) (C := RX2) (T := TX2) (N := 5) hx hb hts hi2 tyX2 tyX2_ok nmX2 hown hK hP hD hS 0 rfl rfl 4 (Nat.le_of_ble_eq_true rfl) (hts _ (List.mem_cons_of_mem _ wd_77)) (fun _ h9 => h9) rfl (by decide +kernel) rfl rfl (Nat.le_of_ble_eq_true rfl) dX2_push_78 (fun H locs hP hD hS => ?_)
    have hP : va_P D vwCl (w2b cI cB hM (zs M_8 4 (fun _ => y11)) ++ w1 cI cB hP1 P1) H := hP
    have hD : va_D A (w2b cI cB hM (zs M_8 4 (fun _ => y11)) ++ w1 cI cB hP1 P1) := hD
    rw [← e_M_14] at hP hD
    refine lv_aload_n hx hb dX2_push_81 rfl (lv_at hl 0 rfl) ?_
    refine lv_aload_n hx hb dX2_push_82 rfl (lv_at hl 0 rfl) ?_
    refine va_get (D := D) (ci := 2) (v := .int (M_14 3 0)) (C := RX2) (T := TX2) (N := 5) hx hb hts hi2 hown hK hP 0 rfl rfl 3 (Nat.le_of_ble_eq_true rfl) (hts _ (List.mem_cons_of_mem _ wd_75)) (fun _ h9 => h9) rfl dX2_push_83 ?_
    refine lv_iconst (v := 1) hx hb dX2_push_86 (by decide) ?_
    refine lv_iadd hx hb dX2_push_87 ?_
    refine lv_aload_n hx hb dX2_push_88 rfl (lv_at hl 0 rfl) ?_
    refine va_get (D := D) (ci := 2) (v := .int (M_14 0 0)) (C := RX2) (T := TX2) (N := 5) hx hb hts hi2 hown hK hP 0 rfl rfl 0 (Nat.le_of_ble_eq_true rfl) (hts _ (List.mem_cons_of_mem _ wd_72)) (fun _ h9 => h9) rfl dX2_push_89 ?_
    obtain ⟨x15, e_x15, hf⟩ := zv_some hf
    refine va_mmin hx hb (hml.trans hl.1.symm) hown (hts _ (List.mem_cons_of_mem _ wd_482)) (hts _ (List.mem_cons_of_mem _ wd_427)) (hts _ (List.mem_cons_of_mem _ wd_5)) (hts _ (List.mem_cons_of_mem _ wd_428)) (Nat.le_of_ble_eq_true rfl) (Nat.le_of_ble_eq_true rfl) (Nat.zero_le _) (Nat.zero_le _) dX2_push_92 ?_
    refine zt e_x15 ?_
    obtain ⟨M_16, e_M_16, hf⟩ := zv_some hf
    refine va_put (D := D) (ci := 2) (v := .int x15) (ty := .int) (C := RX2) (T := TX2) (N := 5) hx hb hts hi2 tyX2 tyX2_ok nmX2 hown hK hP hD hS 0 rfl rfl 3 (Nat.le_of_ble_eq_true rfl) (hts _ (List.mem_cons_of_mem _ wd_75)) (fun _ h9 => h9) rfl (by decide +kernel) rfl rfl (Nat.le_of_ble_eq_true rfl) dX2_push_95 (fun H locs hP hD hS => ?_)
    have hP : va_P D vwCl (w2b cI cB hM (zs M_14 3 (fun _ => x15)) ++ w1 cI cB hP1 P1) H := hP
    have hD : va_D A (w2b cI cB hM (zs M_14 3 (fun _ => x15)) ++ w1 cI cB hP1 P1) := hD
    rw [← e_M_16] at hP hD
    cases hf
    exact zretV hx hb hr hlocks hK hP hD hS dX2_push_98
  replace hf := hq12
  refine lv_icmp_ge (tgt := 77) hx hb dX2_push_65 (by decide) (fun c_10 => ?_) (fun c_10 => ?_)
  · replace hf := zit c_10 hf
    refine lv_iconst (v := 0) hx hb dX2_push_77 (by decide) ?_
    cases hf
    exact J13 _ _ _ hP hD hS (lv_sub hl [0, 1, 2] rfl)
  · replace hf := zif c_10 hf
    refine lv_aload_n hx hb dX2_push_68 rfl (lv_at hl 0 rfl) ?_
    refine va_get (D := D) (ci := 2) (v := .int (M_8 4 0)) (C := RX2) (T := TX2) (N := 5) hx hb hts hi2 hown hK hP 0 rfl rfl 4 (Nat.le_of_ble_eq_true rfl) (hts _ (List.mem_cons_of_mem _ wd_77)) (fun _ h9 => h9) rfl dX2_push_69 ?_
    refine lv_iconst (v := 1) hx hb dX2_push_72 (by decide) ?_
    refine lv_iadd hx hb dX2_push_73 ?_
    refine lv_goto (tgt := 78) hx hb dX2_push_74 (by decide) ?_
    cases hf
    exact J13 _ _ _ hP hD hS (lv_sub hl [0, 1, 2] rfl)
def L_X2b_popInto_46 (M : zMm)  : Nat → Int32 → zMm → Option (Int32 × zMm)
  | 0, _, _ => none
  | n + 1, l2, P1 => if (7 : Int32) ≤ l2 then some (l2, P1) else zl 14 (M 1) (((M 4 0) * 7) + l2) (fun v9 => zw 7 P1 0 l2 v9 (fun P1_10 => zl 14 (M 2) (((M 4 0) * 7) + l2) (fun v11 => zw 7 P1_10 1 l2 v11 (fun P1_12 => zv (l2 + 1) (fun (x13 : Int32) => L_X2b_popInto_46 M n x13 P1_12)))))
def f_X2b_popInto (M : zMm) (P1 : zMm) : Option (zMm × zMm) := if (M 3 0) = 0 then some (M, P1) else zv (zs M 3 (fun _ => (M 3 0) - 1)) (fun (M_2 : zMm) => zb1 (if (M_2 4 0) ≤ 0 then some ((M_2 0 0) - 1) else some ((M_2 4 0) - 1)) (fun (y4 : Int32) => zv (zs M_2 4 (fun _ => y4)) (fun (M_7 : zMm) => zb2 (L_X2b_popInto_46 M_7 100000 0 P1) (fun (x14 : Int32) (P1_15 : zMm) => some (M_7, P1_15)))))
abbrev ww_X2b_popInto : List Cond := Cond.code yX2_popInto cX2_popInto 3 none :: wG
theorem q_X2b_popInto : yX2_popInto.cls = RX2 ∧ yX2_popInto.cls ≠ "java/lang/invoke/MethodHandle" ∧ yX2_popInto.cls ≠ "java/lang/invoke/VarHandle" ∧ (parseMethodDescriptor yX2_popInto.desc).map (fun d => d.parameters.length) = some 1 := by decide +kernel
set_option maxHeartbeats 4000000 in
set_option maxRecDepth 100000 in
theorem c_X2b_popInto (l : Launch) (D : va_G) (cI cB : ClassId) (hM : Nat → Nat) (hP1 : Nat → Nat) (M : zMm) (P1 : zMm) (M0 : zMm) (P10 : zMm) (hf : f_X2b_popInto M P1 = some (M0, P10)) : zMv l yX2_popInto ww_X2b_popInto ({ frames := 0, cells := 0, slots := 0, locals := 0 } : Room) D cI cB [.ref (hM 0), .ref (hP1 0)] (w2b cI cB hM M ++ w1 cI cB hP1 P1) (w2b cI cB hM M0 ++ w1 cI cB hP1 P10) := by
  refine zofV (cc := cX2_popInto) (maxL := 3) (ret := none) (by decide +kernel) rfl (Nat.le_of_ble_eq_true rfl) ?_
  intro p e s m below meth c A ls hx hb hml hr hown hts hlocks hK hP hD hS hA hl
  have hl : lv_has ls 3 [(0, .ref (hM 0)), (1, .ref (hP1 0))] := hl
  have hown : s.vm.findClass RX2 = some m.cls := hown
  have hG : ∀ w ∈ wG, w ∈ ww_X2b_popInto := fun w h => List.mem_cons_of_mem _ h
  have hi1 : ∀ w ∈ wsX10, w ∈ ww_X2b_popInto := fun w h => List.mem_cons_of_mem _ (z_inX1 w h)
  have hi2 : ∀ w ∈ wsX20, w ∈ ww_X2b_popInto := fun w h => List.mem_cons_of_mem _ (z_inX2 w h)
  have L46 : ∀ (M : zMm)  (n : Nat) (l2 : Int32) (P1 : zMm) (o2 : Int32) (oP1 : zMm), L_X2b_popInto_46 M n l2 P1 = some (o2, oP1) → zAt p l e ({ frames := 0, cells := 0, slots := 0, locals := 0 } : Room) s m [.ref (hM 0), .ref (hP1 0)].toArray below meth c (MQ below (zQv D cI cB (w2b cI cB hM M0 ++ w1 cI cB hP1 P10) A) [.ref (hM 0), .ref (hP1 0)].toArray s 0 0 A) A D 3 (w2b cI cB hM M ++ w1 cI cB hP1 oP1) [(0, .ref (hM 0)), (1, .ref (hP1 0)), (2, .int o2)] 98 [] → zAt p l e ({ frames := 0, cells := 0, slots := 0, locals := 0 } : Room) s m [.ref (hM 0), .ref (hP1 0)].toArray below meth c (MQ below (zQv D cI cB (w2b cI cB hM M0 ++ w1 cI cB hP1 P10) A) [.ref (hM 0), .ref (hP1 0)].toArray s 0 0 A) A D 3 (w2b cI cB hM M ++ w1 cI cB hP1 P1) [(0, .ref (hM 0)), (1, .ref (hP1 0)), (2, .int l2)] 46 [] := by
    intro M n
    induction n with
    | zero => intro l2 P1 o2 oP1 hf; simp [L_X2b_popInto_46] at hf
    | succ n ih =>
      intro l2 P1 o2 oP1 hf hk H locs ls hP hD hS hl
      rw [L_X2b_popInto_46] at hf
      refine lv_iload_n hx hb dX2_popInto_46 rfl (lv_at hl 2 rfl) ?_
      refine lv_bipush (v := 7) hx hb dX2_popInto_47 (by decide) ?_
      refine lv_icmp_ge (tgt := 98) hx hb dX2_popInto_49 (by decide) (fun c_8 => ?_) (fun c_8 => ?_)
      · replace hf := zit c_8 hf
        cases hf
        exact hk _ _ _ hP hD hS (lv_sub hl [0, 1, 2] rfl)
      · replace hf := zif c_8 hf
        refine lv_aload_n hx hb dX2_popInto_52 rfl (lv_at hl 1 rfl) ?_
        refine va_get (D := D) (ci := 1) (v := .ref (hP1 1)) (C := RX1) (T := TX1) (N := 2) hx hb hts hi1 hown hK hP 3 rfl rfl 0 (Nat.le_of_ble_eq_true rfl) (hts _ (List.mem_cons_of_mem _ wd_54)) (fun _ h9 => h9) rfl dX2_popInto_53 ?_
        refine lv_iload_n hx hb dX2_popInto_56 rfl (lv_at hl 2 rfl) ?_
        refine lv_aload_n hx hb dX2_popInto_57 rfl (lv_at hl 0 rfl) ?_
        refine va_get (D := D) (ci := 2) (v := .ref (hM 1)) (C := RX2) (T := TX2) (N := 5) hx hb hts hi2 hown hK hP 0 rfl rfl 1 (Nat.le_of_ble_eq_true rfl) (hts _ (List.mem_cons_of_mem _ wd_73)) (fun _ h9 => h9) rfl dX2_popInto_58 ?_
        refine lv_aload_n hx hb dX2_popInto_61 rfl (lv_at hl 0 rfl) ?_
        refine va_get (D := D) (ci := 2) (v := .int (M 4 0)) (C := RX2) (T := TX2) (N := 5) hx hb hts hi2 hown hK hP 0 rfl rfl 4 (Nat.le_of_ble_eq_true rfl) (hts _ (List.mem_cons_of_mem _ wd_77)) (fun _ h9 => h9) rfl dX2_popInto_62 ?_
        refine lv_bipush (v := 7) hx hb dX2_popInto_65 (by decide) ?_
        refine lv_imul hx hb dX2_popInto_67 ?_
        refine lv_iload_n hx hb dX2_popInto_68 rfl (lv_at hl 2 rfl) ?_
        refine lv_iadd hx hb dX2_popInto_69 ?_
        obtain ⟨i_v9, v9, e_v9, hf⟩ := zl_some hf
        refine va_iald (n := 14) (f := M 1) (cA := cI) hx hb hK hP 1 0 rfl rfl i_v9 dX2_popInto_70 ?_
        refine zt e_v9 ?_
        obtain ⟨i_P1_10, P1_10, e_P1_10, hf⟩ := zw_some hf
        refine va_iast (n := 7) (f := P1 0) (cA := cI) hx hb hK hP hD hS 4 0 rfl rfl i_P1_10 dX2_popInto_71 (fun H locs hP hD hS => ?_)
        have hP : va_P D vwCl (w2b cI cB hM M ++ w1 cI cB hP1 (zs P1 0 (upd (P1 0) l2.toNatClampNeg v9))) H := hP
        have hD : va_D A (w2b cI cB hM M ++ w1 cI cB hP1 (zs P1 0 (upd (P1 0) l2.toNatClampNeg v9))) := hD
        rw [← e_P1_10] at hP hD
        refine lv_aload_n hx hb dX2_popInto_72 rfl (lv_at hl 1 rfl) ?_
        refine va_get (D := D) (ci := 1) (v := .ref (hP1 2)) (C := RX1) (T := TX1) (N := 2) hx hb hts hi1 hown hK hP 3 rfl rfl 1 (Nat.le_of_ble_eq_true rfl) (hts _ (List.mem_cons_of_mem _ wd_56)) (fun _ h9 => h9) rfl dX2_popInto_73 ?_
        refine lv_iload_n hx hb dX2_popInto_76 rfl (lv_at hl 2 rfl) ?_
        refine lv_aload_n hx hb dX2_popInto_77 rfl (lv_at hl 0 rfl) ?_
        refine va_get (D := D) (ci := 2) (v := .ref (hM 2)) (C := RX2) (T := TX2) (N := 5) hx hb hts hi2 hown hK hP 0 rfl rfl 2 (Nat.le_of_ble_eq_true rfl) (hts _ (List.mem_cons_of_mem _ wd_74)) (fun _ h9 => h9) rfl dX2_popInto_78 ?_
        refine lv_aload_n hx hb dX2_popInto_81 rfl (lv_at hl 0 rfl) ?_
        refine va_get (D := D) (ci := 2) (v := .int (M 4 0)) (C := RX2) (T := TX2) (N := 5) hx hb hts hi2 hown hK hP 0 rfl rfl 4 (Nat.le_of_ble_eq_true rfl) (hts _ (List.mem_cons_of_mem _ wd_77)) (fun _ h9 => h9) rfl dX2_popInto_82 ?_
        refine lv_bipush (v := 7) hx hb dX2_popInto_85 (by decide) ?_
        refine lv_imul hx hb dX2_popInto_87 ?_
        refine lv_iload_n hx hb dX2_popInto_88 rfl (lv_at hl 2 rfl) ?_
        refine lv_iadd hx hb dX2_popInto_89 ?_
        obtain ⟨i_v11, v11, e_v11, hf⟩ := zl_some hf
        refine va_iald (n := 14) (f := M 2) (cA := cI) hx hb hK hP 2 0 rfl rfl i_v11 dX2_popInto_90 ?_
        refine zt e_v11 ?_
        obtain ⟨i_P1_12, P1_12, e_P1_12, hf⟩ := zw_some hf
        refine va_iast (n := 7) (f := P1_10 1) (cA := cI) hx hb hK hP hD hS 5 0 rfl rfl i_P1_12 dX2_popInto_91 (fun H locs hP hD hS => ?_)
        have hP : va_P D vwCl (w2b cI cB hM M ++ w1 cI cB hP1 (zs P1_10 1 (upd (P1_10 1) l2.toNatClampNeg v11))) H := hP
        have hD : va_D A (w2b cI cB hM M ++ w1 cI cB hP1 (zs P1_10 1 (upd (P1_10 1) l2.toNatClampNeg v11))) := hD
        rw [← e_P1_12] at hP hD
        obtain ⟨x13, e_x13, hf⟩ := zv_some hf
        refine lv_iinc (v := x13) (lv' := [(2, .int x13), (0, .ref (hM 0)), (1, .ref (hP1 0))]) hx hb dX2_popInto_92 hl (k := 2) rfl (by rw [e_x13]; rfl) (by decide) rfl (fun ls hl => ?_)
        refine lv_goto (tgt := 46) hx hb dX2_popInto_95 (by decide) ?_
        exact ih _ _ _ _ hf hk _ _ _ hP hD hS (lv_sub hl [1, 2, 0] rfl)
  unfold f_X2b_popInto at hf
  refine lv_aload_n hx hb dX2_popInto_0 rfl (lv_at hl 0 rfl) ?_
  refine va_get (D := D) (ci := 2) (v := .int (M 3 0)) (C := RX2) (T := TX2) (N := 5) hx hb hts hi2 hown hK hP 0 rfl rfl 3 (Nat.le_of_ble_eq_true rfl) (hts _ (List.mem_cons_of_mem _ wd_75)) (fun _ h9 => h9) rfl dX2_popInto_1 ?_
  refine lv_if_ne (tgt := 8) hx hb dX2_popInto_4 (by decide) (fun c_1 => ?_) (fun c_1 => ?_)
  · replace hf := zif c_1 hf
    refine lv_aload_n hx hb dX2_popInto_8 rfl (lv_at hl 0 rfl) ?_
    refine lv_dup hx hb dX2_popInto_9 rfl ?_
    refine va_get (D := D) (ci := 2) (v := .int (M 3 0)) (C := RX2) (T := TX2) (N := 5) hx hb hts hi2 hown hK hP 0 rfl rfl 3 (Nat.le_of_ble_eq_true rfl) (hts _ (List.mem_cons_of_mem _ wd_75)) (fun _ h9 => h9) rfl dX2_popInto_10 ?_
    refine lv_iconst (v := 1) hx hb dX2_popInto_13 (by decide) ?_
    refine lv_isub hx hb dX2_popInto_14 ?_
    obtain ⟨M_2, e_M_2, hf⟩ := zv_some hf
    refine va_put (D := D) (ci := 2) (v := .int ((M 3 0) - 1)) (ty := .int) (C := RX2) (T := TX2) (N := 5) hx hb hts hi2 tyX2 tyX2_ok nmX2 hown hK hP hD hS 0 rfl rfl 3 (Nat.le_of_ble_eq_true rfl) (hts _ (List.mem_cons_of_mem _ wd_75)) (fun _ h9 => h9) rfl (by decide +kernel) rfl rfl (Nat.le_of_ble_eq_true rfl) dX2_popInto_15 (fun H locs hP hD hS => ?_)
    have hP : va_P D vwCl (w2b cI cB hM (zs M 3 (fun _ => (M 3 0) - 1)) ++ w1 cI cB hP1 P1) H := hP
    have hD : va_D A (w2b cI cB hM (zs M 3 (fun _ => (M 3 0) - 1)) ++ w1 cI cB hP1 P1) := hD
    rw [← e_M_2] at hP hD
    refine lv_aload_n hx hb dX2_popInto_18 rfl (lv_at hl 0 rfl) ?_
    refine lv_aload_n hx hb dX2_popInto_19 rfl (lv_at hl 0 rfl) ?_
    refine va_get (D := D) (ci := 2) (v := .int (M_2 4 0)) (C := RX2) (T := TX2) (N := 5) hx hb hts hi2 hown hK hP 0 rfl rfl 4 (Nat.le_of_ble_eq_true rfl) (hts _ (List.mem_cons_of_mem _ wd_77)) (fun _ h9 => h9) rfl dX2_popInto_20 ?_
    obtain ⟨y4, hq5, hf⟩ := zb1_some hf
    have J6 : zAt p l e ({ frames := 0, cells := 0, slots := 0, locals := 0 } : Room) s m [.ref (hM 0), .ref (hP1 0)].toArray below meth c (MQ below (zQv D cI cB (w2b cI cB hM M0 ++ w1 cI cB hP1 P10) A) [.ref (hM 0), .ref (hP1 0)].toArray s 0 0 A) A D 3 (w2b cI cB hM M_2 ++ w1 cI cB hP1 P1) [(0, .ref (hM 0)), (1, .ref (hP1 0))] 41 [.int y4, .ref (hM 0)] := by
      intro H locs ls hP hD hS hl
      obtain ⟨M_7, e_M_7, hf⟩ := zv_some hf
      refine va_put (D := D) (ci := 2) (v := .int y4) (ty := .int) (C := RX2) (T := TX2) (N := 5) hx hb hts hi2 tyX2 tyX2_ok nmX2 hown hK hP hD hS 0 rfl rfl 4 (Nat.le_of_ble_eq_true rfl) (hts _ (List.mem_cons_of_mem _ wd_77)) (fun _ h9 => h9) rfl (by decide +kernel) rfl rfl (Nat.le_of_ble_eq_true rfl) dX2_popInto_41 (fun H locs hP hD hS => ?_)
      have hP : va_P D vwCl (w2b cI cB hM (zs M_2 4 (fun _ => y4)) ++ w1 cI cB hP1 P1) H := hP
      have hD : va_D A (w2b cI cB hM (zs M_2 4 (fun _ => y4)) ++ w1 cI cB hP1 P1) := hD
      rw [← e_M_7] at hP hD
      refine lv_iconst (v := 0) hx hb dX2_popInto_44 (by decide) ?_
      refine lv_istore_n (lv' := [(2, .int 0), (0, .ref (hM 0)), (1, .ref (hP1 0))]) hx hb dX2_popInto_45 rfl hl (by decide) rfl (fun ls hl => ?_)
      obtain ⟨x14, P1_15, hq16, hf⟩ := zb2_some hf
      refine L46 _ _ _ _ _ _ hq16 ?_ _ _ _ hP hD hS (lv_sub hl [1, 2, 0] rfl)
      intro H locs ls hP hD hS hl
      cases hf
      exact zretV hx hb hr hlocks hK hP hD hS dX2_popInto_98
    replace hf := hq5
    refine lv_if_le (tgt := 35) hx hb dX2_popInto_23 (by decide) (fun c_3 => ?_) (fun c_3 => ?_)
    · replace hf := zit c_3 hf
      refine lv_aload_n hx hb dX2_popInto_35 rfl (lv_at hl 0 rfl) ?_
      refine va_get (D := D) (ci := 2) (v := .int (M_2 0 0)) (C := RX2) (T := TX2) (N := 5) hx hb hts hi2 hown hK hP 0 rfl rfl 0 (Nat.le_of_ble_eq_true rfl) (hts _ (List.mem_cons_of_mem _ wd_72)) (fun _ h9 => h9) rfl dX2_popInto_36 ?_
      refine lv_iconst (v := 1) hx hb dX2_popInto_39 (by decide) ?_
      refine lv_isub hx hb dX2_popInto_40 ?_
      cases hf
      exact J6 _ _ _ hP hD hS (lv_sub hl [0, 1] rfl)
    · replace hf := zif c_3 hf
      refine lv_aload_n hx hb dX2_popInto_26 rfl (lv_at hl 0 rfl) ?_
      refine va_get (D := D) (ci := 2) (v := .int (M_2 4 0)) (C := RX2) (T := TX2) (N := 5) hx hb hts hi2 hown hK hP 0 rfl rfl 4 (Nat.le_of_ble_eq_true rfl) (hts _ (List.mem_cons_of_mem _ wd_77)) (fun _ h9 => h9) rfl dX2_popInto_27 ?_
      refine lv_iconst (v := 1) hx hb dX2_popInto_30 (by decide) ?_
      refine lv_isub hx hb dX2_popInto_31 ?_
      refine lv_goto (tgt := 41) hx hb dX2_popInto_32 (by decide) ?_
      cases hf
      exact J6 _ _ _ hP hD hS (lv_sub hl [0, 1] rfl)
  · replace hf := zit c_1 hf
    cases hf
    exact zretV hx hb hr hlocks hK hP hD hS dX2_popInto_7
def f_X4_add (M : zMm) (a1 : Int32) (a2 : Int32) : Option (zMm) := if (12 : Int32) ≤ (M 2 0) then some M else zw 12 M 0 (M 2 0) a1 (fun M_2 => zw 12 M_2 1 (M_2 2 0) a2 (fun M_3 => zv (zs M_3 2 (fun _ => (M_3 2 0) + 1)) (fun (M_4 : zMm) => some M_4)))
abbrev ww_X4_add : List Cond := Cond.code yX4_add cX4_add 3 none :: wG
theorem q_X4_add : yX4_add.cls = RX4 ∧ yX4_add.cls ≠ "java/lang/invoke/MethodHandle" ∧ yX4_add.cls ≠ "java/lang/invoke/VarHandle" ∧ (parseMethodDescriptor yX4_add.desc).map (fun d => d.parameters.length) = some 2 := by decide +kernel
set_option maxHeartbeats 4000000 in
set_option maxRecDepth 100000 in
theorem c_X4_add (l : Launch) (D : va_G) (cI cB : ClassId) (hM : Nat → Nat) (M : zMm) (a1 : Int32) (a2 : Int32) (M0 : zMm) (hf : f_X4_add M a1 a2 = some M0) : zMv l yX4_add ww_X4_add ({ frames := 0, cells := 0, slots := 0, locals := 0 } : Room) D cI cB [.ref (hM 0), .int a1, .int a2] (w4 cI cB hM M) (w4 cI cB hM M0) := by
  refine zofV (cc := cX4_add) (maxL := 3) (ret := none) (by decide +kernel) rfl (Nat.le_of_ble_eq_true rfl) ?_
  intro p e s m below meth c A ls hx hb hml hr hown hts hlocks hK hP hD hS hA hl
  have hl : lv_has ls 3 [(0, .ref (hM 0)), (1, .int a1), (2, .int a2)] := hl
  have hown : s.vm.findClass RX4 = some m.cls := hown
  have hG : ∀ w ∈ wG, w ∈ ww_X4_add := fun w h => List.mem_cons_of_mem _ h
  have hi4 : ∀ w ∈ wsX40, w ∈ ww_X4_add := fun w h => List.mem_cons_of_mem _ (z_inX4 w h)
  unfold f_X4_add at hf
  refine lv_aload_n hx hb dX4_add_0 rfl (lv_at hl 0 rfl) ?_
  refine va_get (D := D) (ci := 4) (v := .int (M 2 0)) (C := RX4) (T := TX4) (N := 3) hx hb hts hi4 hown hK hP 0 rfl rfl 2 (Nat.le_of_ble_eq_true rfl) (hts _ (List.mem_cons_of_mem _ wd_118)) (fun _ h9 => h9) rfl dX4_add_1 ?_
  refine lv_bipush (v := 12) hx hb dX4_add_4 (by decide) ?_
  refine lv_icmp_ge (tgt := 39) hx hb dX4_add_6 (by decide) (fun c_1 => ?_) (fun c_1 => ?_)
  · replace hf := zit c_1 hf
    cases hf
    exact zretV hx hb hr hlocks hK hP hD hS dX4_add_39
  · replace hf := zif c_1 hf
    refine lv_aload_n hx hb dX4_add_9 rfl (lv_at hl 0 rfl) ?_
    refine va_get (D := D) (ci := 4) (v := .ref (hM 1)) (C := RX4) (T := TX4) (N := 3) hx hb hts hi4 hown hK hP 0 rfl rfl 0 (Nat.le_of_ble_eq_true rfl) (hts _ (List.mem_cons_of_mem _ wd_115)) (fun _ h9 => h9) rfl dX4_add_10 ?_
    refine lv_aload_n hx hb dX4_add_13 rfl (lv_at hl 0 rfl) ?_
    refine va_get (D := D) (ci := 4) (v := .int (M 2 0)) (C := RX4) (T := TX4) (N := 3) hx hb hts hi4 hown hK hP 0 rfl rfl 2 (Nat.le_of_ble_eq_true rfl) (hts _ (List.mem_cons_of_mem _ wd_118)) (fun _ h9 => h9) rfl dX4_add_14 ?_
    refine lv_iload_n hx hb dX4_add_17 rfl (lv_at hl 1 rfl) ?_
    obtain ⟨i_M_2, M_2, e_M_2, hf⟩ := zw_some hf
    refine va_iast (n := 12) (f := M 0) (cA := cI) hx hb hK hP hD hS 1 0 rfl rfl i_M_2 dX4_add_18 (fun H locs hP hD hS => ?_)
    have hP : va_P D vwCl (w4 cI cB hM (zs M 0 (upd (M 0) (M 2 0).toNatClampNeg a1))) H := hP
    have hD : va_D A (w4 cI cB hM (zs M 0 (upd (M 0) (M 2 0).toNatClampNeg a1))) := hD
    rw [← e_M_2] at hP hD
    refine lv_aload_n hx hb dX4_add_19 rfl (lv_at hl 0 rfl) ?_
    refine va_get (D := D) (ci := 4) (v := .ref (hM 2)) (C := RX4) (T := TX4) (N := 3) hx hb hts hi4 hown hK hP 0 rfl rfl 1 (Nat.le_of_ble_eq_true rfl) (hts _ (List.mem_cons_of_mem _ wd_116)) (fun _ h9 => h9) rfl dX4_add_20 ?_
    refine lv_aload_n hx hb dX4_add_23 rfl (lv_at hl 0 rfl) ?_
    refine va_get (D := D) (ci := 4) (v := .int (M_2 2 0)) (C := RX4) (T := TX4) (N := 3) hx hb hts hi4 hown hK hP 0 rfl rfl 2 (Nat.le_of_ble_eq_true rfl) (hts _ (List.mem_cons_of_mem _ wd_118)) (fun _ h9 => h9) rfl dX4_add_24 ?_
    refine lv_iload_n hx hb dX4_add_27 rfl (lv_at hl 2 rfl) ?_
    obtain ⟨i_M_3, M_3, e_M_3, hf⟩ := zw_some hf
    refine va_iast (n := 12) (f := M_2 1) (cA := cI) hx hb hK hP hD hS 2 0 rfl rfl i_M_3 dX4_add_28 (fun H locs hP hD hS => ?_)
    have hP : va_P D vwCl (w4 cI cB hM (zs M_2 1 (upd (M_2 1) (M_2 2 0).toNatClampNeg a2))) H := hP
    have hD : va_D A (w4 cI cB hM (zs M_2 1 (upd (M_2 1) (M_2 2 0).toNatClampNeg a2))) := hD
    rw [← e_M_3] at hP hD
    refine lv_aload_n hx hb dX4_add_29 rfl (lv_at hl 0 rfl) ?_
    refine lv_dup hx hb dX4_add_30 rfl ?_
    refine va_get (D := D) (ci := 4) (v := .int (M_3 2 0)) (C := RX4) (T := TX4) (N := 3) hx hb hts hi4 hown hK hP 0 rfl rfl 2 (Nat.le_of_ble_eq_true rfl) (hts _ (List.mem_cons_of_mem _ wd_118)) (fun _ h9 => h9) rfl dX4_add_31 ?_
    refine lv_iconst (v := 1) hx hb dX4_add_34 (by decide) ?_
    refine lv_iadd hx hb dX4_add_35 ?_
    obtain ⟨M_4, e_M_4, hf⟩ := zv_some hf
    refine va_put (D := D) (ci := 4) (v := .int ((M_3 2 0) + 1)) (ty := .int) (C := RX4) (T := TX4) (N := 3) hx hb hts hi4 tyX4 tyX4_ok nmX4 hown hK hP hD hS 0 rfl rfl 2 (Nat.le_of_ble_eq_true rfl) (hts _ (List.mem_cons_of_mem _ wd_118)) (fun _ h9 => h9) rfl (by decide +kernel) rfl rfl (Nat.le_of_ble_eq_true rfl) dX4_add_36 (fun H locs hP hD hS => ?_)
    have hP : va_P D vwCl (w4 cI cB hM (zs M_3 2 (fun _ => (M_3 2 0) + 1))) H := hP
    have hD : va_D A (w4 cI cB hM (zs M_3 2 (fun _ => (M_3 2 0) + 1))) := hD
    rw [← e_M_4] at hP hD
    cases hf
    exact zretV hx hb hr hlocks hK hP hD hS dX4_add_39
def L_X4_countIn_4 (M : zMm) (l1 : Int32) : Nat → Int32 → Int32 → Option (Int32 × Int32)
  | 0, _, _ => none
  | n + 1, l2, l3 => if (M 2 0) ≤ l3 then some (l2, l3) else zl 12 (M 0) l3 (fun v2 => zb1 (if v2 = l1 then some (1 : Int32) else some (0 : Int32)) (fun (y4 : Int32) => zv (l2 + y4) (fun (x7 : Int32) => zv (l3 + 1) (fun (x8 : Int32) => L_X4_countIn_4 M l1 n x7 x8))))
def f_X4_countIn (M : zMm) (a1 : Int32) : Option (Int32) := zb2 (L_X4_countIn_4 M a1 100000 0 0) (fun (x9 : Int32) (x10 : Int32) => some x9)
abbrev ww_X4_countIn : List Cond := Cond.code yX4_countIn cX4_countIn 4 (some .int) :: wG
theorem q_X4_countIn : yX4_countIn.cls = RX4 ∧ yX4_countIn.cls ≠ "java/lang/invoke/MethodHandle" ∧ yX4_countIn.cls ≠ "java/lang/invoke/VarHandle" ∧ (parseMethodDescriptor yX4_countIn.desc).map (fun d => d.parameters.length) = some 1 := by decide +kernel
set_option maxHeartbeats 4000000 in
set_option maxRecDepth 100000 in
theorem c_X4_countIn (l : Launch) (D : va_G) (cI cB : ClassId) (hM : Nat → Nat) (M : zMm) (a1 : Int32) (r0 : Int32) (hf : f_X4_countIn M a1 = some r0) : zMi l yX4_countIn ww_X4_countIn ({ frames := 0, cells := 0, slots := 0, locals := 0 } : Room) D cI cB [.ref (hM 0), .int a1] [k4_0 cI cB hM M, k4_1 cI cB hM M] r0 [k4_0 cI cB hM M, k4_1 cI cB hM M] := by
  refine zofI (cc := cX4_countIn) (maxL := 4) (ret := (some .int)) (by decide +kernel) rfl (Nat.le_of_ble_eq_true rfl) ?_
  intro p e s m below meth c A ls hx hb hml hr hown hts hlocks hK hP hD hS hA hl
  have hl : lv_has ls 4 [(0, .ref (hM 0)), (1, .int a1)] := hl
  have hown : s.vm.findClass RX4 = some m.cls := hown
  have hG : ∀ w ∈ wG, w ∈ ww_X4_countIn := fun w h => List.mem_cons_of_mem _ h
  have hi4 : ∀ w ∈ wsX40, w ∈ ww_X4_countIn := fun w h => List.mem_cons_of_mem _ (z_inX4 w h)
  have L4 : ∀ (M : zMm) (l1 : Int32) (n : Nat) (l2 : Int32) (l3 : Int32) (o2 : Int32) (o3 : Int32), L_X4_countIn_4 M l1 n l2 l3 = some (o2, o3) → zAt p l e ({ frames := 0, cells := 0, slots := 0, locals := 0 } : Room) s m [.ref (hM 0), .int a1].toArray below meth c (MQ below (zQi D cI cB r0 [k4_0 cI cB hM M, k4_1 cI cB hM M] A) [.ref (hM 0), .int a1].toArray s 0 0 A) A D 4 [k4_0 cI cB hM M, k4_1 cI cB hM M] [(0, .ref (hM 0)), (1, .int l1), (2, .int o2), (3, .int o3)] 36 [] → zAt p l e ({ frames := 0, cells := 0, slots := 0, locals := 0 } : Room) s m [.ref (hM 0), .int a1].toArray below meth c (MQ below (zQi D cI cB r0 [k4_0 cI cB hM M, k4_1 cI cB hM M] A) [.ref (hM 0), .int a1].toArray s 0 0 A) A D 4 [k4_0 cI cB hM M, k4_1 cI cB hM M] [(0, .ref (hM 0)), (1, .int l1), (2, .int l2), (3, .int l3)] 4 [] := by
    intro M l1 n
    induction n with
    | zero => intro l2 l3 o2 o3 hf; simp [L_X4_countIn_4] at hf
    | succ n ih =>
      intro l2 l3 o2 o3 hf hk H locs ls hP hD hS hl
      rw [L_X4_countIn_4] at hf
      refine lv_iload_n hx hb dX4_countIn_4 rfl (lv_at hl 3 rfl) ?_
      refine lv_aload_n hx hb dX4_countIn_5 rfl (lv_at hl 0 rfl) ?_
      refine va_get (D := D) (ci := 4) (v := .int (M 2 0)) (C := RX4) (T := TX4) (N := 3) hx hb hts hi4 hown hK hP 0 rfl rfl 2 (Nat.le_of_ble_eq_true rfl) (hts _ (List.mem_cons_of_mem _ wd_118)) (fun _ h9 => h9) rfl dX4_countIn_6 ?_
      refine lv_icmp_ge (tgt := 36) hx hb dX4_countIn_9 (by decide) (fun c_1 => ?_) (fun c_1 => ?_)
      · replace hf := zit c_1 hf
        cases hf
        exact hk _ _ _ hP hD hS (lv_sub hl [0, 1, 2, 3] rfl)
      · replace hf := zif c_1 hf
        refine lv_iload_n hx hb dX4_countIn_12 rfl (lv_at hl 2 rfl) ?_
        refine lv_aload_n hx hb dX4_countIn_13 rfl (lv_at hl 0 rfl) ?_
        refine va_get (D := D) (ci := 4) (v := .ref (hM 1)) (C := RX4) (T := TX4) (N := 3) hx hb hts hi4 hown hK hP 0 rfl rfl 0 (Nat.le_of_ble_eq_true rfl) (hts _ (List.mem_cons_of_mem _ wd_115)) (fun _ h9 => h9) rfl dX4_countIn_14 ?_
        refine lv_iload_n hx hb dX4_countIn_17 rfl (lv_at hl 3 rfl) ?_
        obtain ⟨i_v2, v2, e_v2, hf⟩ := zl_some hf
        refine va_iald (n := 12) (f := M 0) (cA := cI) hx hb hK hP 1 0 rfl rfl i_v2 dX4_countIn_18 ?_
        refine zt e_v2 ?_
        refine lv_iload_n hx hb dX4_countIn_19 rfl (lv_at hl 1 rfl) ?_
        obtain ⟨y4, hq5, hf⟩ := zb1_some hf
        have J6 : zAt p l e ({ frames := 0, cells := 0, slots := 0, locals := 0 } : Room) s m [.ref (hM 0), .int a1].toArray below meth c (MQ below (zQi D cI cB r0 [k4_0 cI cB hM M, k4_1 cI cB hM M] A) [.ref (hM 0), .int a1].toArray s 0 0 A) A D 4 [k4_0 cI cB hM M, k4_1 cI cB hM M] [(0, .ref (hM 0)), (1, .int l1), (2, .int l2), (3, .int l3)] 28 [.int y4, .int l2] := by
          intro H locs ls hP hD hS hl
          refine lv_iadd hx hb dX4_countIn_28 ?_
          obtain ⟨x7, e_x7, hf⟩ := zv_some hf
          refine zt e_x7 ?_
          refine lv_istore_n (lv' := [(2, .int x7), (0, .ref (hM 0)), (1, .int l1), (3, .int l3)]) hx hb dX4_countIn_29 rfl hl (by decide) rfl (fun ls hl => ?_)
          obtain ⟨x8, e_x8, hf⟩ := zv_some hf
          refine lv_iinc (v := x8) (lv' := [(3, .int x8), (2, .int x7), (0, .ref (hM 0)), (1, .int l1)]) hx hb dX4_countIn_30 hl (k := 3) rfl (by rw [e_x8]; rfl) (by decide) rfl (fun ls hl => ?_)
          refine lv_goto (tgt := 4) hx hb dX4_countIn_33 (by decide) ?_
          exact ih _ _ _ _ hf hk _ _ _ hP hD hS (lv_sub hl [2, 3, 1, 0] rfl)
        replace hf := hq5
        refine lv_icmp_ne (tgt := 27) hx hb dX4_countIn_20 (by decide) (fun c_3 => ?_) (fun c_3 => ?_)
        · replace hf := zif c_3 hf
          refine lv_iconst (v := 0) hx hb dX4_countIn_27 (by decide) ?_
          cases hf
          exact J6 _ _ _ hP hD hS (lv_sub hl [0, 1, 2, 3] rfl)
        · replace hf := zit c_3 hf
          refine lv_iconst (v := 1) hx hb dX4_countIn_23 (by decide) ?_
          refine lv_goto (tgt := 28) hx hb dX4_countIn_24 (by decide) ?_
          cases hf
          exact J6 _ _ _ hP hD hS (lv_sub hl [0, 1, 2, 3] rfl)
  unfold f_X4_countIn at hf
  refine lv_iconst (v := 0) hx hb dX4_countIn_0 (by decide) ?_
  refine lv_istore_n (lv' := [(2, .int 0), (0, .ref (hM 0)), (1, .int a1)]) hx hb dX4_countIn_1 rfl hl (by decide) rfl (fun ls hl => ?_)
  refine lv_iconst (v := 0) hx hb dX4_countIn_2 (by decide) ?_
  refine lv_istore_n (lv' := [(3, .int 0), (2, .int 0), (0, .ref (hM 0)), (1, .int a1)]) hx hb dX4_countIn_3 rfl hl (by decide) rfl (fun ls hl => ?_)
  obtain ⟨x9, x10, hq11, hf⟩ := zb2_some hf
  refine L4 _ _ _ _ _ _ _ hq11 ?_ _ _ _ hP hD hS (lv_sub hl [2, 3, 1, 0] rfl)
  intro H locs ls hP hD hS hl
  refine lv_iload_n hx hb dX4_countIn_36 rfl (lv_at hl 2 rfl) ?_
  cases hf
  exact zretI hx hb hr hlocks hK hP hD hS dX4_countIn_37
def f_X6_add (M : zMm) (a1 : Int32) (a2 : Int32) (a3 : Int32) : Option (zMm) := if (10 : Int32) ≤ (M 3 0) then some M else zw 10 M 0 (M 3 0) a1 (fun M_2 => zw 10 M_2 1 (M_2 3 0) a2 (fun M_3 => zw 10 M_3 2 (M_3 3 0) a3 (fun M_4 => zv (zs M_4 3 (fun _ => (M_4 3 0) + 1)) (fun (M_5 : zMm) => some M_5))))
abbrev ww_X6_add : List Cond := Cond.code yX6_add cX6_add 4 none :: wG
theorem q_X6_add : yX6_add.cls = RX6 ∧ yX6_add.cls ≠ "java/lang/invoke/MethodHandle" ∧ yX6_add.cls ≠ "java/lang/invoke/VarHandle" ∧ (parseMethodDescriptor yX6_add.desc).map (fun d => d.parameters.length) = some 3 := by decide +kernel
set_option maxHeartbeats 4000000 in
set_option maxRecDepth 100000 in
theorem c_X6_add (l : Launch) (D : va_G) (cI cB : ClassId) (hM : Nat → Nat) (M : zMm) (a1 : Int32) (a2 : Int32) (a3 : Int32) (M0 : zMm) (hf : f_X6_add M a1 a2 a3 = some M0) : zMv l yX6_add ww_X6_add ({ frames := 0, cells := 0, slots := 0, locals := 0 } : Room) D cI cB [.ref (hM 0), .int a1, .int a2, .int a3] (w6 cI cB hM M) (w6 cI cB hM M0) := by
  refine zofV (cc := cX6_add) (maxL := 4) (ret := none) (by decide +kernel) rfl (Nat.le_of_ble_eq_true rfl) ?_
  intro p e s m below meth c A ls hx hb hml hr hown hts hlocks hK hP hD hS hA hl
  have hl : lv_has ls 4 [(0, .ref (hM 0)), (1, .int a1), (2, .int a2), (3, .int a3)] := hl
  have hown : s.vm.findClass RX6 = some m.cls := hown
  have hG : ∀ w ∈ wG, w ∈ ww_X6_add := fun w h => List.mem_cons_of_mem _ h
  have hi6 : ∀ w ∈ wsX60, w ∈ ww_X6_add := fun w h => List.mem_cons_of_mem _ (z_inX6 w h)
  unfold f_X6_add at hf
  refine lv_aload_n hx hb dX6_add_0 rfl (lv_at hl 0 rfl) ?_
  refine va_get (D := D) (ci := 6) (v := .int (M 3 0)) (C := RX6) (T := TX6) (N := 4) hx hb hts hi6 hown hK hP 0 rfl rfl 3 (Nat.le_of_ble_eq_true rfl) (hts _ (List.mem_cons_of_mem _ wd_98)) (fun _ h9 => h9) rfl dX6_add_1 ?_
  refine lv_bipush (v := 10) hx hb dX6_add_4 (by decide) ?_
  refine lv_icmp_ge (tgt := 49) hx hb dX6_add_6 (by decide) (fun c_1 => ?_) (fun c_1 => ?_)
  · replace hf := zit c_1 hf
    cases hf
    exact zretV hx hb hr hlocks hK hP hD hS dX6_add_49
  · replace hf := zif c_1 hf
    refine lv_aload_n hx hb dX6_add_9 rfl (lv_at hl 0 rfl) ?_
    refine va_get (D := D) (ci := 6) (v := .ref (hM 1)) (C := RX6) (T := TX6) (N := 4) hx hb hts hi6 hown hK hP 0 rfl rfl 0 (Nat.le_of_ble_eq_true rfl) (hts _ (List.mem_cons_of_mem _ wd_95)) (fun _ h9 => h9) rfl dX6_add_10 ?_
    refine lv_aload_n hx hb dX6_add_13 rfl (lv_at hl 0 rfl) ?_
    refine va_get (D := D) (ci := 6) (v := .int (M 3 0)) (C := RX6) (T := TX6) (N := 4) hx hb hts hi6 hown hK hP 0 rfl rfl 3 (Nat.le_of_ble_eq_true rfl) (hts _ (List.mem_cons_of_mem _ wd_98)) (fun _ h9 => h9) rfl dX6_add_14 ?_
    refine lv_iload_n hx hb dX6_add_17 rfl (lv_at hl 1 rfl) ?_
    obtain ⟨i_M_2, M_2, e_M_2, hf⟩ := zw_some hf
    refine va_iast (n := 10) (f := M 0) (cA := cI) hx hb hK hP hD hS 1 0 rfl rfl i_M_2 dX6_add_18 (fun H locs hP hD hS => ?_)
    have hP : va_P D vwCl (w6 cI cB hM (zs M 0 (upd (M 0) (M 3 0).toNatClampNeg a1))) H := hP
    have hD : va_D A (w6 cI cB hM (zs M 0 (upd (M 0) (M 3 0).toNatClampNeg a1))) := hD
    rw [← e_M_2] at hP hD
    refine lv_aload_n hx hb dX6_add_19 rfl (lv_at hl 0 rfl) ?_
    refine va_get (D := D) (ci := 6) (v := .ref (hM 2)) (C := RX6) (T := TX6) (N := 4) hx hb hts hi6 hown hK hP 0 rfl rfl 1 (Nat.le_of_ble_eq_true rfl) (hts _ (List.mem_cons_of_mem _ wd_96)) (fun _ h9 => h9) rfl dX6_add_20 ?_
    refine lv_aload_n hx hb dX6_add_23 rfl (lv_at hl 0 rfl) ?_
    refine va_get (D := D) (ci := 6) (v := .int (M_2 3 0)) (C := RX6) (T := TX6) (N := 4) hx hb hts hi6 hown hK hP 0 rfl rfl 3 (Nat.le_of_ble_eq_true rfl) (hts _ (List.mem_cons_of_mem _ wd_98)) (fun _ h9 => h9) rfl dX6_add_24 ?_
    refine lv_iload_n hx hb dX6_add_27 rfl (lv_at hl 2 rfl) ?_
    obtain ⟨i_M_3, M_3, e_M_3, hf⟩ := zw_some hf
    refine va_iast (n := 10) (f := M_2 1) (cA := cI) hx hb hK hP hD hS 2 0 rfl rfl i_M_3 dX6_add_28 (fun H locs hP hD hS => ?_)
    have hP : va_P D vwCl (w6 cI cB hM (zs M_2 1 (upd (M_2 1) (M_2 3 0).toNatClampNeg a2))) H := hP
    have hD : va_D A (w6 cI cB hM (zs M_2 1 (upd (M_2 1) (M_2 3 0).toNatClampNeg a2))) := hD
    rw [← e_M_3] at hP hD
    refine lv_aload_n hx hb dX6_add_29 rfl (lv_at hl 0 rfl) ?_
    refine va_get (D := D) (ci := 6) (v := .ref (hM 3)) (C := RX6) (T := TX6) (N := 4) hx hb hts hi6 hown hK hP 0 rfl rfl 2 (Nat.le_of_ble_eq_true rfl) (hts _ (List.mem_cons_of_mem _ wd_97)) (fun _ h9 => h9) rfl dX6_add_30 ?_
    refine lv_aload_n hx hb dX6_add_33 rfl (lv_at hl 0 rfl) ?_
    refine va_get (D := D) (ci := 6) (v := .int (M_3 3 0)) (C := RX6) (T := TX6) (N := 4) hx hb hts hi6 hown hK hP 0 rfl rfl 3 (Nat.le_of_ble_eq_true rfl) (hts _ (List.mem_cons_of_mem _ wd_98)) (fun _ h9 => h9) rfl dX6_add_34 ?_
    refine lv_iload_n hx hb dX6_add_37 rfl (lv_at hl 3 rfl) ?_
    obtain ⟨i_M_4, M_4, e_M_4, hf⟩ := zw_some hf
    refine va_iast (n := 10) (f := M_3 2) (cA := cI) hx hb hK hP hD hS 3 0 rfl rfl i_M_4 dX6_add_38 (fun H locs hP hD hS => ?_)
    have hP : va_P D vwCl (w6 cI cB hM (zs M_3 2 (upd (M_3 2) (M_3 3 0).toNatClampNeg a3))) H := hP
    have hD : va_D A (w6 cI cB hM (zs M_3 2 (upd (M_3 2) (M_3 3 0).toNatClampNeg a3))) := hD
    rw [← e_M_4] at hP hD
    refine lv_aload_n hx hb dX6_add_39 rfl (lv_at hl 0 rfl) ?_
    refine lv_dup hx hb dX6_add_40 rfl ?_
    refine va_get (D := D) (ci := 6) (v := .int (M_4 3 0)) (C := RX6) (T := TX6) (N := 4) hx hb hts hi6 hown hK hP 0 rfl rfl 3 (Nat.le_of_ble_eq_true rfl) (hts _ (List.mem_cons_of_mem _ wd_98)) (fun _ h9 => h9) rfl dX6_add_41 ?_
    refine lv_iconst (v := 1) hx hb dX6_add_44 (by decide) ?_
    refine lv_iadd hx hb dX6_add_45 ?_
    obtain ⟨M_5, e_M_5, hf⟩ := zv_some hf
    refine va_put (D := D) (ci := 6) (v := .int ((M_4 3 0) + 1)) (ty := .int) (C := RX6) (T := TX6) (N := 4) hx hb hts hi6 tyX6 tyX6_ok nmX6 hown hK hP hD hS 0 rfl rfl 3 (Nat.le_of_ble_eq_true rfl) (hts _ (List.mem_cons_of_mem _ wd_98)) (fun _ h9 => h9) rfl (by decide +kernel) rfl rfl (Nat.le_of_ble_eq_true rfl) dX6_add_46 (fun H locs hP hD hS => ?_)
    have hP : va_P D vwCl (w6 cI cB hM (zs M_4 3 (fun _ => (M_4 3 0) + 1))) H := hP
    have hD : va_D A (w6 cI cB hM (zs M_4 3 (fun _ => (M_4 3 0) + 1))) := hD
    rw [← e_M_5] at hP hD
    cases hf
    exact zretV hx hb hr hlocks hK hP hD hS dX6_add_49
def L_X6_agreeWith_2 (M : zMm) (l1 : Int32) (l2 : Int32) : Nat → Int32 → Option (Int32)
  | 0, _ => none
  | n + 1, l3 => if (M 3 0) ≤ l3 then some (1 : Int32) else zl 10 (M 0) l3 (fun v2 => if v2 = l1 then zl 10 (M 1) l3 (fun v5 => zb1 (f_X5_byInch v5 l2) (fun (r6 : Int32) => zl 10 (M 2) l3 (fun v8 => if r6 = v8 then zv (l3 + 1) (fun (x10 : Int32) => L_X6_agreeWith_2 M l1 l2 n x10) else some (0 : Int32)))) else zv (l3 + 1) (fun (x4 : Int32) => L_X6_agreeWith_2 M l1 l2 n x4))
def f_X6_agreeWith (M : zMm) (a1 : Int32) (a2 : Int32) : Option (Int32) := L_X6_agreeWith_2 M a1 a2 100000 0
abbrev ww_X6_agreeWith : List Cond := Cond.code yX6_agreeWith cX6_agreeWith 4 (some .boolean) :: wG
theorem q_X6_agreeWith : yX6_agreeWith.cls = RX6 ∧ yX6_agreeWith.cls ≠ "java/lang/invoke/MethodHandle" ∧ yX6_agreeWith.cls ≠ "java/lang/invoke/VarHandle" ∧ (parseMethodDescriptor yX6_agreeWith.desc).map (fun d => d.parameters.length) = some 2 := by decide +kernel
set_option maxHeartbeats 4000000 in
set_option maxRecDepth 100000 in
theorem c_X6_agreeWith (l : Launch) (D : va_G) (cI cB : ClassId) (hM : Nat → Nat) (M : zMm) (a1 : Int32) (a2 : Int32) (r0 : Int32) (hf : f_X6_agreeWith M a1 a2 = some r0) : zMi l yX6_agreeWith ww_X6_agreeWith ({ frames := 1, cells := 0, slots := 0, locals := 21 } : Room) D cI cB [.ref (hM 0), .int a1, .int a2] (w6 cI cB hM M) r0 (w6 cI cB hM M) := by
  refine zofI (cc := cX6_agreeWith) (maxL := 4) (ret := (some .boolean)) (by decide +kernel) rfl (Nat.le_of_ble_eq_true rfl) ?_
  intro p e s m below meth c A ls hx hb hml hr hown hts hlocks hK hP hD hS hA hl
  have hl : lv_has ls 4 [(0, .ref (hM 0)), (1, .int a1), (2, .int a2)] := hl
  have hown : s.vm.findClass RX6 = some m.cls := hown
  have hG : ∀ w ∈ wG, w ∈ ww_X6_agreeWith := fun w h => List.mem_cons_of_mem _ h
  have hi6 : ∀ w ∈ wsX60, w ∈ ww_X6_agreeWith := fun w h => List.mem_cons_of_mem _ (z_inX6 w h)
  have L2 : ∀ (M : zMm) (l1 : Int32) (l2 : Int32) (n : Nat) (l3 : Int32), L_X6_agreeWith_2 M l1 l2 n l3 = some r0 → zAt p l e ({ frames := 1, cells := 0, slots := 0, locals := 21 } : Room) s m [.ref (hM 0), .int a1, .int a2].toArray below meth c (MQ below (zQi D cI cB r0 (w6 cI cB hM M) A) [.ref (hM 0), .int a1, .int a2].toArray s 0 0 A) A D 4 (w6 cI cB hM M) [(0, .ref (hM 0)), (1, .int l1), (2, .int l2), (3, .int l3)] 2 [] := by
    intro M l1 l2 n
    induction n with
    | zero => intro l3 hf; simp [L_X6_agreeWith_2] at hf
    | succ n ih =>
      intro l3 hf H locs ls hP hD hS hl
      rw [L_X6_agreeWith_2] at hf
      refine lv_iload_n hx hb dX6_agreeWith_2 rfl (lv_at hl 3 rfl) ?_
      refine lv_aload_n hx hb dX6_agreeWith_3 rfl (lv_at hl 0 rfl) ?_
      refine va_get (D := D) (ci := 6) (v := .int (M 3 0)) (C := RX6) (T := TX6) (N := 4) hx hb hts hi6 hown hK hP 0 rfl rfl 3 (Nat.le_of_ble_eq_true rfl) (hts _ (List.mem_cons_of_mem _ wd_98)) (fun _ h9 => h9) rfl dX6_agreeWith_4 ?_
      refine lv_icmp_ge (tgt := 47) hx hb dX6_agreeWith_7 (by decide) (fun c_1 => ?_) (fun c_1 => ?_)
      · replace hf := zit c_1 hf
        refine lv_iconst (v := 1) hx hb dX6_agreeWith_47 (by decide) ?_
        cases hf
        exact zretB hx hb hr hlocks rfl hK hP hD hS dX6_agreeWith_48
      · replace hf := zif c_1 hf
        refine lv_aload_n hx hb dX6_agreeWith_10 rfl (lv_at hl 0 rfl) ?_
        refine va_get (D := D) (ci := 6) (v := .ref (hM 1)) (C := RX6) (T := TX6) (N := 4) hx hb hts hi6 hown hK hP 0 rfl rfl 0 (Nat.le_of_ble_eq_true rfl) (hts _ (List.mem_cons_of_mem _ wd_95)) (fun _ h9 => h9) rfl dX6_agreeWith_11 ?_
        refine lv_iload_n hx hb dX6_agreeWith_14 rfl (lv_at hl 3 rfl) ?_
        obtain ⟨i_v2, v2, e_v2, hf⟩ := zl_some hf
        refine va_iald (n := 10) (f := M 0) (cA := cI) hx hb hK hP 1 0 rfl rfl i_v2 dX6_agreeWith_15 ?_
        refine zt e_v2 ?_
        refine lv_iload_n hx hb dX6_agreeWith_16 rfl (lv_at hl 1 rfl) ?_
        refine lv_icmp_ne (tgt := 41) hx hb dX6_agreeWith_17 (by decide) (fun c_3 => ?_) (fun c_3 => ?_)
        · replace hf := zif c_3 hf
          obtain ⟨x4, e_x4, hf⟩ := zv_some hf
          refine lv_iinc (v := x4) (lv' := [(3, .int x4), (0, .ref (hM 0)), (1, .int l1), (2, .int l2)]) hx hb dX6_agreeWith_41 hl (k := 3) rfl (by rw [e_x4]; rfl) (by decide) rfl (fun ls hl => ?_)
          refine lv_goto (tgt := 2) hx hb dX6_agreeWith_44 (by decide) ?_
          exact ih _ hf _ _ _ hP hD hS (lv_sub hl [1, 2, 3, 0] rfl)
        · replace hf := zit c_3 hf
          refine lv_aload_n hx hb dX6_agreeWith_20 rfl (lv_at hl 0 rfl) ?_
          refine va_get (D := D) (ci := 6) (v := .ref (hM 2)) (C := RX6) (T := TX6) (N := 4) hx hb hts hi6 hown hK hP 0 rfl rfl 1 (Nat.le_of_ble_eq_true rfl) (hts _ (List.mem_cons_of_mem _ wd_96)) (fun _ h9 => h9) rfl dX6_agreeWith_21 ?_
          refine lv_iload_n hx hb dX6_agreeWith_24 rfl (lv_at hl 3 rfl) ?_
          obtain ⟨i_v5, v5, e_v5, hf⟩ := zl_some hf
          refine va_iald (n := 10) (f := M 1) (cA := cI) hx hb hK hP 2 0 rfl rfl i_v5 dX6_agreeWith_25 ?_
          refine zt e_v5 ?_
          refine lv_iload_n hx hb dX6_agreeWith_26 rfl (lv_at hl 2 rfl) ?_
          obtain ⟨r6, hq7, hf⟩ := zb1_some hf
          refine zcallSi (rest := []) ⟨hx, hb, hml, hown, hts⟩ (c_X5_byInch l D cI cB v5 l2 r6 hq7) (z_cwS 2 hts (z_gS hG wd_571 wd_436 wd_10 wd_437) rfl rfl rfl q_X5_byInch ⟨Nat.le_of_ble_eq_true rfl, Nat.le_of_ble_eq_true rfl⟩) hK hP hD hS hA rfl hl.1 (Nat.le_of_ble_eq_true rfl) dX6_agreeWith_27 ⟨Nat.zero_le _, Nat.zero_le _⟩ rfl (fun H locs hP hD hS => ?_)
          refine lv_aload_n hx hb dX6_agreeWith_30 rfl (lv_at hl 0 rfl) ?_
          refine va_get (D := D) (ci := 6) (v := .ref (hM 3)) (C := RX6) (T := TX6) (N := 4) hx hb hts hi6 hown hK hP 0 rfl rfl 2 (Nat.le_of_ble_eq_true rfl) (hts _ (List.mem_cons_of_mem _ wd_97)) (fun _ h9 => h9) rfl dX6_agreeWith_31 ?_
          refine lv_iload_n hx hb dX6_agreeWith_34 rfl (lv_at hl 3 rfl) ?_
          obtain ⟨i_v8, v8, e_v8, hf⟩ := zl_some hf
          refine va_iald (n := 10) (f := M 2) (cA := cI) hx hb hK hP 3 0 rfl rfl i_v8 dX6_agreeWith_35 ?_
          refine zt e_v8 ?_
          refine lv_icmp_eq (tgt := 41) hx hb dX6_agreeWith_36 (by decide) (fun c_9 => ?_) (fun c_9 => ?_)
          · replace hf := zit c_9 hf
            obtain ⟨x10, e_x10, hf⟩ := zv_some hf
            refine lv_iinc (v := x10) (lv' := [(3, .int x10), (0, .ref (hM 0)), (1, .int l1), (2, .int l2)]) hx hb dX6_agreeWith_41 hl (k := 3) rfl (by rw [e_x10]; rfl) (by decide) rfl (fun ls hl => ?_)
            refine lv_goto (tgt := 2) hx hb dX6_agreeWith_44 (by decide) ?_
            exact ih _ hf _ _ _ hP hD hS (lv_sub hl [1, 2, 3, 0] rfl)
          · replace hf := zif c_9 hf
            refine lv_iconst (v := 0) hx hb dX6_agreeWith_39 (by decide) ?_
            cases hf
            exact zretB hx hb hr hlocks rfl hK hP hD hS dX6_agreeWith_40
  unfold f_X6_agreeWith at hf
  refine lv_iconst (v := 0) hx hb dX6_agreeWith_0 (by decide) ?_
  refine lv_istore_n (lv' := [(3, .int 0), (0, .ref (hM 0)), (1, .int a1), (2, .int a2)]) hx hb dX6_agreeWith_1 rfl hl (by decide) rfl (fun ls hl => ?_)
  exact L2 _ _ _ _ _ hf _ _ _ hP hD hS (lv_sub hl [1, 2, 3, 0] rfl)
def f_X7_append (M : zMm) (a1 : Int32) : Option (zMm) := if (300 : Int32) ≤ (M 2 0) then some M else zw 300 M 0 (M 2 0) (vp_nar .byte (a1.toInt8.toInt32)) (fun M_2 => zv (zs M_2 2 (fun _ => (M_2 2 0) + 1)) (fun (M_3 : zMm) => some M_3))
abbrev ww_X7_append : List Cond := Cond.code yX7_append cX7_append 2 none :: wG
theorem q_X7_append : yX7_append.cls = RX7 ∧ yX7_append.cls ≠ "java/lang/invoke/MethodHandle" ∧ yX7_append.cls ≠ "java/lang/invoke/VarHandle" ∧ (parseMethodDescriptor yX7_append.desc).map (fun d => d.parameters.length) = some 1 := by decide +kernel
set_option maxHeartbeats 4000000 in
set_option maxRecDepth 100000 in
theorem c_X7_append (l : Launch) (D : va_G) (cI cB : ClassId) (hM : Nat → Nat) (M : zMm) (a1 : Int32) (M0 : zMm) (hf : f_X7_append M a1 = some M0) : zMv l yX7_append ww_X7_append ({ frames := 0, cells := 0, slots := 0, locals := 0 } : Room) D cI cB [.ref (hM 0), .int a1] (w7 cI cB hM M) (w7 cI cB hM M0) := by
  refine zofV (cc := cX7_append) (maxL := 2) (ret := none) (by decide +kernel) rfl (Nat.le_of_ble_eq_true rfl) ?_
  intro p e s m below meth c A ls hx hb hml hr hown hts hlocks hK hP hD hS hA hl
  have hl : lv_has ls 2 [(0, .ref (hM 0)), (1, .int a1)] := hl
  have hown : s.vm.findClass RX7 = some m.cls := hown
  have hG : ∀ w ∈ wG, w ∈ ww_X7_append := fun w h => List.mem_cons_of_mem _ h
  have hi7 : ∀ w ∈ wsX70, w ∈ ww_X7_append := fun w h => List.mem_cons_of_mem _ (z_inX7 w h)
  unfold f_X7_append at hf
  refine lv_aload_n hx hb dX7_append_0 rfl (lv_at hl 0 rfl) ?_
  refine va_get (D := D) (ci := 7) (v := .int (M 2 0)) (C := RX7) (T := TX7) (N := 3) hx hb hts hi7 hown hK hP 0 rfl rfl 2 (Nat.le_of_ble_eq_true rfl) (hts _ (List.mem_cons_of_mem _ wd_32)) (fun _ h9 => h9) rfl dX7_append_1 ?_
  refine lv_sipush (v := 300) hx hb dX7_append_4 (by decide) ?_
  refine lv_icmp_ge (tgt := 31) hx hb dX7_append_7 (by decide) (fun c_1 => ?_) (fun c_1 => ?_)
  · replace hf := zit c_1 hf
    cases hf
    exact zretV hx hb hr hlocks hK hP hD hS dX7_append_31
  · replace hf := zif c_1 hf
    refine lv_aload_n hx hb dX7_append_10 rfl (lv_at hl 0 rfl) ?_
    refine va_get (D := D) (ci := 7) (v := .ref (hM 1)) (C := RX7) (T := TX7) (N := 3) hx hb hts hi7 hown hK hP 0 rfl rfl 0 (Nat.le_of_ble_eq_true rfl) (hts _ (List.mem_cons_of_mem _ wd_30)) (fun _ h9 => h9) rfl dX7_append_11 ?_
    refine lv_aload_n hx hb dX7_append_14 rfl (lv_at hl 0 rfl) ?_
    refine va_get (D := D) (ci := 7) (v := .int (M 2 0)) (C := RX7) (T := TX7) (N := 3) hx hb hts hi7 hown hK hP 0 rfl rfl 2 (Nat.le_of_ble_eq_true rfl) (hts _ (List.mem_cons_of_mem _ wd_32)) (fun _ h9 => h9) rfl dX7_append_15 ?_
    refine lv_iload_n hx hb dX7_append_18 rfl (lv_at hl 1 rfl) ?_
    refine lv_i2b hx hb dX7_append_19 rfl ?_
    obtain ⟨i_M_2, M_2, e_M_2, hf⟩ := zw_some hf
    refine va_bast (n := 300) (f := M 0) (cA := cB) hx hb hK hP hD hS 1 1 rfl rfl i_M_2 dX7_append_20 (fun H locs hP hD hS => ?_)
    have hP : va_P D vwCl (w7 cI cB hM (zs M 0 (upd (M 0) (M 2 0).toNatClampNeg (vp_nar .byte (a1.toInt8.toInt32))))) H := hP
    have hD : va_D A (w7 cI cB hM (zs M 0 (upd (M 0) (M 2 0).toNatClampNeg (vp_nar .byte (a1.toInt8.toInt32))))) := hD
    rw [← e_M_2] at hP hD
    refine lv_aload_n hx hb dX7_append_21 rfl (lv_at hl 0 rfl) ?_
    refine lv_dup hx hb dX7_append_22 rfl ?_
    refine va_get (D := D) (ci := 7) (v := .int (M_2 2 0)) (C := RX7) (T := TX7) (N := 3) hx hb hts hi7 hown hK hP 0 rfl rfl 2 (Nat.le_of_ble_eq_true rfl) (hts _ (List.mem_cons_of_mem _ wd_32)) (fun _ h9 => h9) rfl dX7_append_23 ?_
    refine lv_iconst (v := 1) hx hb dX7_append_26 (by decide) ?_
    refine lv_iadd hx hb dX7_append_27 ?_
    obtain ⟨M_3, e_M_3, hf⟩ := zv_some hf
    refine va_put (D := D) (ci := 7) (v := .int ((M_2 2 0) + 1)) (ty := .int) (C := RX7) (T := TX7) (N := 3) hx hb hts hi7 tyX7 tyX7_ok nmX7 hown hK hP hD hS 0 rfl rfl 2 (Nat.le_of_ble_eq_true rfl) (hts _ (List.mem_cons_of_mem _ wd_32)) (fun _ h9 => h9) rfl (by decide +kernel) rfl rfl (Nat.le_of_ble_eq_true rfl) dX7_append_28 (fun H locs hP hD hS => ?_)
    have hP : va_P D vwCl (w7 cI cB hM (zs M_2 2 (fun _ => (M_2 2 0) + 1))) H := hP
    have hD : va_D A (w7 cI cB hM (zs M_2 2 (fun _ => (M_2 2 0) + 1))) := hD
    rw [← e_M_3] at hP hD
    cases hf
    exact zretV hx hb hr hlocks hK hP hD hS dX7_append_31
def f_X7_numbersBehind (a0 : Int32) : Option (Int32) := if a0 = 99 then some (1 : Int32) else if a0 = 103 then some (1 : Int32) else if a0 = 112 then some (3 : Int32) else if a0 = 115 then some (2 : Int32) else if a0 = 116 then some (1 : Int32) else if a0 = 122 then some (1 : Int32) else some (0 : Int32)
abbrev ww_X7_numbersBehind : List Cond := Cond.code yX7_numbersBehind cX7_numbersBehind 1 (some .int) :: wG
theorem q_X7_numbersBehind : yX7_numbersBehind.cls ≠ "java/lang/invoke/MethodHandle" ∧ yX7_numbersBehind.cls ≠ "java/lang/invoke/VarHandle" ∧ (parseMethodDescriptor yX7_numbersBehind.desc).map (fun d => d.parameters.length) = some 1 := by decide +kernel
set_option maxHeartbeats 4000000 in
set_option maxRecDepth 100000 in
theorem c_X7_numbersBehind (l : Launch) (D : va_G) (cI cB : ClassId)  (a0 : Int32) (r0 : Int32) (hf : f_X7_numbersBehind a0 = some r0) : zMi l yX7_numbersBehind ww_X7_numbersBehind ({ frames := 0, cells := 0, slots := 0, locals := 0 } : Room) D cI cB [.int a0] [] r0 [] := by
  refine zofI (cc := cX7_numbersBehind) (maxL := 1) (ret := (some .int)) (by decide +kernel) rfl (Nat.le_of_ble_eq_true rfl) ?_
  intro p e s m below meth c A ls hx hb hml hr hown hts hlocks hK hP hD hS hA hl
  have hl : lv_has ls 1 [(0, .int a0)] := hl
  have hown : s.vm.findClass RX7 = some m.cls := hown
  have hG : ∀ w ∈ wG, w ∈ ww_X7_numbersBehind := fun w h => List.mem_cons_of_mem _ h
  unfold f_X7_numbersBehind at hf
  refine lv_iload_n hx hb dX7_numbersBehind_0 rfl (lv_at hl 0 rfl) ?_
  by_cases c_1 : a0 = 99
  · replace hf := zit c_1 hf
    refine zt c_1.symm ?_
    refine lv_lookup (off := 59) (tgt := 60) hx hb dX7_numbersBehind_1 (by decide) (by decide) (by decide) ?_
    refine lv_iconst (v := 1) hx hb dX7_numbersBehind_60 (by decide) ?_
    cases hf
    exact zretI hx hb hr hlocks hK hP hD hS dX7_numbersBehind_61
  · replace hf := zif c_1 hf
    by_cases c_2 : a0 = 103
    · replace hf := zit c_2 hf
      refine zt c_2.symm ?_
      refine lv_lookup (off := 59) (tgt := 60) hx hb dX7_numbersBehind_1 (by decide) (by decide) (by decide) ?_
      refine lv_iconst (v := 1) hx hb dX7_numbersBehind_60 (by decide) ?_
      cases hf
      exact zretI hx hb hr hlocks hK hP hD hS dX7_numbersBehind_61
    · replace hf := zif c_2 hf
      by_cases c_3 : a0 = 112
      · replace hf := zit c_3 hf
        refine zt c_3.symm ?_
        refine lv_lookup (off := 63) (tgt := 64) hx hb dX7_numbersBehind_1 (by decide) (by decide) (by decide) ?_
        refine lv_iconst (v := 3) hx hb dX7_numbersBehind_64 (by decide) ?_
        cases hf
        exact zretI hx hb hr hlocks hK hP hD hS dX7_numbersBehind_65
      · replace hf := zif c_3 hf
        by_cases c_4 : a0 = 115
        · replace hf := zit c_4 hf
          refine zt c_4.symm ?_
          refine lv_lookup (off := 61) (tgt := 62) hx hb dX7_numbersBehind_1 (by decide) (by decide) (by decide) ?_
          refine lv_iconst (v := 2) hx hb dX7_numbersBehind_62 (by decide) ?_
          cases hf
          exact zretI hx hb hr hlocks hK hP hD hS dX7_numbersBehind_63
        · replace hf := zif c_4 hf
          by_cases c_5 : a0 = 116
          · replace hf := zit c_5 hf
            refine zt c_5.symm ?_
            refine lv_lookup (off := 59) (tgt := 60) hx hb dX7_numbersBehind_1 (by decide) (by decide) (by decide) ?_
            refine lv_iconst (v := 1) hx hb dX7_numbersBehind_60 (by decide) ?_
            cases hf
            exact zretI hx hb hr hlocks hK hP hD hS dX7_numbersBehind_61
          · replace hf := zif c_5 hf
            by_cases c_6 : a0 = 122
            · replace hf := zit c_6 hf
              refine zt c_6.symm ?_
              refine lv_lookup (off := 59) (tgt := 60) hx hb dX7_numbersBehind_1 (by decide) (by decide) (by decide) ?_
              refine lv_iconst (v := 1) hx hb dX7_numbersBehind_60 (by decide) ?_
              cases hf
              exact zretI hx hb hr hlocks hK hP hD hS dX7_numbersBehind_61
            · replace hf := zif c_6 hf
              refine lv_lookup (off := 65) (tgt := 66) hx hb dX7_numbersBehind_1 (by decide) ((lv_osw (k := 99) (a := 99) c_1 (by decide)).trans ((lv_osw (k := 103) (a := 103) c_2 (by decide)).trans ((lv_osw (k := 112) (a := 112) c_3 (by decide)).trans ((lv_osw (k := 115) (a := 115) c_4 (by decide)).trans ((lv_osw (k := 116) (a := 116) c_5 (by decide)).trans ((lv_osw (k := 122) (a := 122) c_6 (by decide)).trans (rfl))))))) (by decide) ?_
              refine lv_iconst (v := 0) hx hb dX7_numbersBehind_66 (by decide) ?_
              cases hf
              exact zretI hx hb hr hlocks hK hP hD hS dX7_numbersBehind_67
def f_X7_byteAt (M : zMm) (a1 : Int32) : Option (Int32) := if a1 < 0 then some ((-1) : Int32) else if (M 2 0) ≤ a1 then some ((-1) : Int32) else zl 300 (M 0) a1 (fun v3 => some (v3 &&& 255))
abbrev ww_X7_byteAt : List Cond := Cond.code yX7_byteAt cX7_byteAt 2 (some .int) :: wG
theorem q_X7_byteAt : yX7_byteAt.cls = RX7 ∧ yX7_byteAt.cls ≠ "java/lang/invoke/MethodHandle" ∧ yX7_byteAt.cls ≠ "java/lang/invoke/VarHandle" ∧ (parseMethodDescriptor yX7_byteAt.desc).map (fun d => d.parameters.length) = some 1 := by decide +kernel
set_option maxHeartbeats 4000000 in
set_option maxRecDepth 100000 in
theorem c_X7_byteAt (l : Launch) (D : va_G) (cI cB : ClassId) (hM : Nat → Nat) (M : zMm) (a1 : Int32) (r0 : Int32) (hf : f_X7_byteAt M a1 = some r0) : zMi l yX7_byteAt ww_X7_byteAt ({ frames := 0, cells := 0, slots := 0, locals := 0 } : Room) D cI cB [.ref (hM 0), .int a1] [k7_0 cI cB hM M, k7_1 cI cB hM M] r0 [k7_0 cI cB hM M, k7_1 cI cB hM M] := by
  refine zofI (cc := cX7_byteAt) (maxL := 2) (ret := (some .int)) (by decide +kernel) rfl (Nat.le_of_ble_eq_true rfl) ?_
  intro p e s m below meth c A ls hx hb hml hr hown hts hlocks hK hP hD hS hA hl
  have hl : lv_has ls 2 [(0, .ref (hM 0)), (1, .int a1)] := hl
  have hown : s.vm.findClass RX7 = some m.cls := hown
  have hG : ∀ w ∈ wG, w ∈ ww_X7_byteAt := fun w h => List.mem_cons_of_mem _ h
  have hi7 : ∀ w ∈ wsX70, w ∈ ww_X7_byteAt := fun w h => List.mem_cons_of_mem _ (z_inX7 w h)
  unfold f_X7_byteAt at hf
  refine lv_iload_n hx hb dX7_byteAt_0 rfl (lv_at hl 1 rfl) ?_
  refine lv_if_lt (tgt := 25) hx hb dX7_byteAt_1 (by decide) (fun c_1 => ?_) (fun c_1 => ?_)
  · replace hf := zit c_1 hf
    refine lv_iconst (v := (-1)) hx hb dX7_byteAt_25 (by decide) ?_
    cases hf
    exact zretI hx hb hr hlocks hK hP hD hS dX7_byteAt_26
  · replace hf := zif c_1 hf
    refine lv_iload_n hx hb dX7_byteAt_4 rfl (lv_at hl 1 rfl) ?_
    refine lv_aload_n hx hb dX7_byteAt_5 rfl (lv_at hl 0 rfl) ?_
    refine va_get (D := D) (ci := 7) (v := .int (M 2 0)) (C := RX7) (T := TX7) (N := 3) hx hb hts hi7 hown hK hP 0 rfl rfl 2 (Nat.le_of_ble_eq_true rfl) (hts _ (List.mem_cons_of_mem _ wd_32)) (fun _ h9 => h9) rfl dX7_byteAt_6 ?_
    refine lv_icmp_ge (tgt := 25) hx hb dX7_byteAt_9 (by decide) (fun c_2 => ?_) (fun c_2 => ?_)
    · replace hf := zit c_2 hf
      refine lv_iconst (v := (-1)) hx hb dX7_byteAt_25 (by decide) ?_
      cases hf
      exact zretI hx hb hr hlocks hK hP hD hS dX7_byteAt_26
    · replace hf := zif c_2 hf
      refine lv_aload_n hx hb dX7_byteAt_12 rfl (lv_at hl 0 rfl) ?_
      refine va_get (D := D) (ci := 7) (v := .ref (hM 1)) (C := RX7) (T := TX7) (N := 3) hx hb hts hi7 hown hK hP 0 rfl rfl 0 (Nat.le_of_ble_eq_true rfl) (hts _ (List.mem_cons_of_mem _ wd_30)) (fun _ h9 => h9) rfl dX7_byteAt_13 ?_
      refine lv_iload_n hx hb dX7_byteAt_16 rfl (lv_at hl 1 rfl) ?_
      obtain ⟨i_v3, v3, e_v3, hf⟩ := zl_some hf
      refine va_bald (n := 300) (f := M 0) (cA := cB) hx hb hK hP 1 1 rfl rfl i_v3 dX7_byteAt_17 ?_
      refine zt e_v3 ?_
      refine lv_sipush (v := 255) hx hb dX7_byteAt_18 (by decide) ?_
      refine lv_iand hx hb dX7_byteAt_21 ?_
      refine lv_goto (tgt := 26) hx hb dX7_byteAt_22 (by decide) ?_
      cases hf
      exact zretI hx hb hr hlocks hK hP hD hS dX7_byteAt_26
def L_X7_readNumber_5 (M : zMm) (l1 : Int32) (l2 : Int32) : Nat → Int32 → Int32 → Option (Int32 × Int32)
  | 0, _, _ => none
  | n + 1, l3, l4 => if (l1 + 3) ≤ l3 then some (l3, l4) else zb1 (f_X7_byteAt M l3) (fun (r2 : Int32) => if r2 < 48 then some (l3, l4) else zb1 (f_X7_byteAt M l3) (fun (r5 : Int32) => if (57 : Int32) < r5 then some (l3, l4) else zb1 (f_X7_byteAt M l3) (fun (r8 : Int32) => zv ((((10 : Int32) * l4) + r8) - 48) (fun (x10 : Int32) => zv (l3 + 1) (fun (x11 : Int32) => L_X7_readNumber_5 M l1 l2 n x11 x10)))))
def f_X7_readNumber (M : zMm) (a1 : Int32) (a2 : Int32) : Option (Int32 × zMm) := zb2 (L_X7_readNumber_5 M a1 a2 100000 a1 0) (fun (x12 : Int32) (x13 : Int32) => if x12 = a1 then some (((-1) : Int32), M) else if a2 < 0 then some (((-1) : Int32), M) else if a2 < 3 then zw 3 M 1 a2 x13 (fun M_18 => some (x12, M_18)) else some (((-1) : Int32), M))
abbrev ww_X7_readNumber : List Cond := Cond.code yX7_readNumber cX7_readNumber 5 (some .int) :: wG
theorem q_X7_readNumber : yX7_readNumber.cls = RX7 ∧ yX7_readNumber.cls ≠ "java/lang/invoke/MethodHandle" ∧ yX7_readNumber.cls ≠ "java/lang/invoke/VarHandle" ∧ (parseMethodDescriptor yX7_readNumber.desc).map (fun d => d.parameters.length) = some 2 := by decide +kernel
set_option maxHeartbeats 4000000 in
set_option maxRecDepth 100000 in
theorem c_X7_readNumber (l : Launch) (D : va_G) (cI cB : ClassId) (hM : Nat → Nat) (M : zMm) (a1 : Int32) (a2 : Int32) (r0 : Int32) (M0 : zMm) (hf : f_X7_readNumber M a1 a2 = some (r0, M0)) : zMi l yX7_readNumber ww_X7_readNumber ({ frames := 1, cells := 0, slots := 0, locals := 21 } : Room) D cI cB [.ref (hM 0), .int a1, .int a2] (w7 cI cB hM M) r0 (w7 cI cB hM M0) := by
  refine zofI (cc := cX7_readNumber) (maxL := 5) (ret := (some .int)) (by decide +kernel) rfl (Nat.le_of_ble_eq_true rfl) ?_
  intro p e s m below meth c A ls hx hb hml hr hown hts hlocks hK hP hD hS hA hl
  have hl : lv_has ls 5 [(0, .ref (hM 0)), (1, .int a1), (2, .int a2)] := hl
  have hown : s.vm.findClass RX7 = some m.cls := hown
  have hG : ∀ w ∈ wG, w ∈ ww_X7_readNumber := fun w h => List.mem_cons_of_mem _ h
  have hi7 : ∀ w ∈ wsX70, w ∈ ww_X7_readNumber := fun w h => List.mem_cons_of_mem _ (z_inX7 w h)
  have L5 : ∀ (M : zMm) (l1 : Int32) (l2 : Int32) (n : Nat) (l3 : Int32) (l4 : Int32) (o3 : Int32) (o4 : Int32), L_X7_readNumber_5 M l1 l2 n l3 l4 = some (o3, o4) → zAt p l e ({ frames := 1, cells := 0, slots := 0, locals := 21 } : Room) s m [.ref (hM 0), .int a1, .int a2].toArray below meth c (MQ below (zQi D cI cB r0 (w7 cI cB hM M0) A) [.ref (hM 0), .int a1, .int a2].toArray s 0 0 A) A D 5 (w7 cI cB hM M) [(0, .ref (hM 0)), (1, .int l1), (2, .int l2), (3, .int o3), (4, .int o4)] 54 [] → zAt p l e ({ frames := 1, cells := 0, slots := 0, locals := 21 } : Room) s m [.ref (hM 0), .int a1, .int a2].toArray below meth c (MQ below (zQi D cI cB r0 (w7 cI cB hM M0) A) [.ref (hM 0), .int a1, .int a2].toArray s 0 0 A) A D 5 (w7 cI cB hM M) [(0, .ref (hM 0)), (1, .int l1), (2, .int l2), (3, .int l3), (4, .int l4)] 5 [] := by
    intro M l1 l2 n
    induction n with
    | zero => intro l3 l4 o3 o4 hf; simp [L_X7_readNumber_5] at hf
    | succ n ih =>
      intro l3 l4 o3 o4 hf hk H locs ls hP hD hS hl
      rw [L_X7_readNumber_5] at hf
      refine lv_iload_n hx hb dX7_readNumber_5 rfl (lv_at hl 3 rfl) ?_
      refine lv_iload_n hx hb dX7_readNumber_6 rfl (lv_at hl 1 rfl) ?_
      refine lv_iconst (v := 3) hx hb dX7_readNumber_7 (by decide) ?_
      refine lv_iadd hx hb dX7_readNumber_8 ?_
      refine lv_icmp_ge (tgt := 54) hx hb dX7_readNumber_9 (by decide) (fun c_1 => ?_) (fun c_1 => ?_)
      · replace hf := zit c_1 hf
        cases hf
        exact hk _ _ _ hP hD hS (lv_sub hl [0, 1, 2, 3, 4] rfl)
      · replace hf := zif c_1 hf
        refine lv_aload_n hx hb dX7_readNumber_12 rfl (lv_at hl 0 rfl) ?_
        refine lv_iload_n hx hb dX7_readNumber_13 rfl (lv_at hl 3 rfl) ?_
        obtain ⟨r2, hq3, hf⟩ := zb1_some hf
        refine zcallVi (ws2 := (w7 cI cB hM M)) (rest := []) ⟨hx, hb, hml, hown, hts⟩ (c_X7_byteAt l D cI cB hM M l3 r2 hq3) (cwV 1 hts (z_gV hG wd_292 wd_294 wd_s0 wd_2 wd_295) rfl rfl rfl q_X7_byteAt ⟨Nat.le_of_ble_eq_true rfl, Nat.le_of_ble_eq_true rfl⟩) hK hP hD hS hA 7 rfl rfl rfl [0, 1] [2] rfl rfl rfl rfl rfl rfl rfl hl.1 (Nat.le_of_ble_eq_true rfl) dX7_readNumber_14 ⟨Nat.zero_le _, Nat.zero_le _⟩ rfl (fun H locs hP hD hS => ?_)
        refine lv_bipush (v := 48) hx hb dX7_readNumber_17 (by decide) ?_
        refine lv_icmp_lt (tgt := 54) hx hb dX7_readNumber_19 (by decide) (fun c_4 => ?_) (fun c_4 => ?_)
        · replace hf := zit c_4 hf
          cases hf
          exact hk _ _ _ hP hD hS (lv_sub hl [0, 1, 2, 3, 4] rfl)
        · replace hf := zif c_4 hf
          refine lv_aload_n hx hb dX7_readNumber_22 rfl (lv_at hl 0 rfl) ?_
          refine lv_iload_n hx hb dX7_readNumber_23 rfl (lv_at hl 3 rfl) ?_
          obtain ⟨r5, hq6, hf⟩ := zb1_some hf
          refine zcallVi (ws2 := (w7 cI cB hM M)) (rest := []) ⟨hx, hb, hml, hown, hts⟩ (c_X7_byteAt l D cI cB hM M l3 r5 hq6) (cwV 1 hts (z_gV hG wd_292 wd_294 wd_s0 wd_2 wd_295) rfl rfl rfl q_X7_byteAt ⟨Nat.le_of_ble_eq_true rfl, Nat.le_of_ble_eq_true rfl⟩) hK hP hD hS hA 7 rfl rfl rfl [0, 1] [2] rfl rfl rfl rfl rfl rfl rfl hl.1 (Nat.le_of_ble_eq_true rfl) dX7_readNumber_24 ⟨Nat.zero_le _, Nat.zero_le _⟩ rfl (fun H locs hP hD hS => ?_)
          refine lv_bipush (v := 57) hx hb dX7_readNumber_27 (by decide) ?_
          refine lv_icmp_gt (tgt := 54) hx hb dX7_readNumber_29 (by decide) (fun c_7 => ?_) (fun c_7 => ?_)
          · replace hf := zit c_7 hf
            cases hf
            exact hk _ _ _ hP hD hS (lv_sub hl [0, 1, 2, 3, 4] rfl)
          · replace hf := zif c_7 hf
            refine lv_bipush (v := 10) hx hb dX7_readNumber_32 (by decide) ?_
            refine lv_iload hx hb dX7_readNumber_34 (lv_at hl 4 rfl) ?_
            refine lv_imul hx hb dX7_readNumber_36 ?_
            refine lv_aload_n hx hb dX7_readNumber_37 rfl (lv_at hl 0 rfl) ?_
            refine lv_iload_n hx hb dX7_readNumber_38 rfl (lv_at hl 3 rfl) ?_
            obtain ⟨r8, hq9, hf⟩ := zb1_some hf
            refine zcallVi (ws2 := (w7 cI cB hM M)) (rest := [.int ((10 : Int32) * l4)]) ⟨hx, hb, hml, hown, hts⟩ (c_X7_byteAt l D cI cB hM M l3 r8 hq9) (cwV 1 hts (z_gV hG wd_292 wd_294 wd_s0 wd_2 wd_295) rfl rfl rfl q_X7_byteAt ⟨Nat.le_of_ble_eq_true rfl, Nat.le_of_ble_eq_true rfl⟩) hK hP hD hS hA 7 rfl rfl rfl [0, 1] [2] rfl rfl rfl rfl rfl rfl rfl hl.1 (Nat.le_of_ble_eq_true rfl) dX7_readNumber_39 ⟨Nat.zero_le _, Nat.zero_le _⟩ rfl (fun H locs hP hD hS => ?_)
            refine lv_iadd hx hb dX7_readNumber_42 ?_
            refine lv_bipush (v := 48) hx hb dX7_readNumber_43 (by decide) ?_
            refine lv_isub hx hb dX7_readNumber_45 ?_
            obtain ⟨x10, e_x10, hf⟩ := zv_some hf
            refine zt e_x10 ?_
            refine lv_istore (lv' := [(4, .int x10), (0, .ref (hM 0)), (1, .int l1), (2, .int l2), (3, .int l3)]) hx hb dX7_readNumber_46 hl (by decide) rfl (fun ls hl => ?_)
            obtain ⟨x11, e_x11, hf⟩ := zv_some hf
            refine lv_iinc (v := x11) (lv' := [(3, .int x11), (4, .int x10), (0, .ref (hM 0)), (1, .int l1), (2, .int l2)]) hx hb dX7_readNumber_48 hl (k := 4) rfl (by rw [e_x11]; rfl) (by decide) rfl (fun ls hl => ?_)
            refine lv_goto (tgt := 5) hx hb dX7_readNumber_51 (by decide) ?_
            exact ih _ _ _ _ hf hk _ _ _ hP hD hS (lv_sub hl [2, 3, 4, 0, 1] rfl)
  unfold f_X7_readNumber at hf
  refine lv_iload_n hx hb dX7_readNumber_0 rfl (lv_at hl 1 rfl) ?_
  refine lv_istore_n (lv' := [(3, .int a1), (0, .ref (hM 0)), (1, .int a1), (2, .int a2)]) hx hb dX7_readNumber_1 rfl hl (by decide) rfl (fun ls hl => ?_)
  refine lv_iconst (v := 0) hx hb dX7_readNumber_2 (by decide) ?_
  refine lv_istore (lv' := [(4, .int 0), (3, .int a1), (0, .ref (hM 0)), (1, .int a1), (2, .int a2)]) hx hb dX7_readNumber_3 hl (by decide) rfl (fun ls hl => ?_)
  obtain ⟨x12, x13, hq14, hf⟩ := zb2_some hf
  refine L5 _ _ _ _ _ _ _ _ hq14 ?_ _ _ _ hP hD hS (lv_sub hl [2, 3, 4, 1, 0] rfl)
  intro H locs ls hP hD hS hl
  refine lv_iload_n hx hb dX7_readNumber_54 rfl (lv_at hl 3 rfl) ?_
  refine lv_iload_n hx hb dX7_readNumber_55 rfl (lv_at hl 1 rfl) ?_
  refine lv_icmp_eq (tgt := 68) hx hb dX7_readNumber_56 (by decide) (fun c_15 => ?_) (fun c_15 => ?_)
  · replace hf := zit c_15 hf
    refine lv_iconst (v := (-1)) hx hb dX7_readNumber_68 (by decide) ?_
    cases hf
    exact zretI hx hb hr hlocks hK hP hD hS dX7_readNumber_69
  · replace hf := zif c_15 hf
    refine lv_iload_n hx hb dX7_readNumber_59 rfl (lv_at hl 2 rfl) ?_
    refine lv_if_lt (tgt := 68) hx hb dX7_readNumber_60 (by decide) (fun c_16 => ?_) (fun c_16 => ?_)
    · replace hf := zit c_16 hf
      refine lv_iconst (v := (-1)) hx hb dX7_readNumber_68 (by decide) ?_
      cases hf
      exact zretI hx hb hr hlocks hK hP hD hS dX7_readNumber_69
    · replace hf := zif c_16 hf
      refine lv_iload_n hx hb dX7_readNumber_63 rfl (lv_at hl 2 rfl) ?_
      refine lv_iconst (v := 3) hx hb dX7_readNumber_64 (by decide) ?_
      refine lv_icmp_lt (tgt := 70) hx hb dX7_readNumber_65 (by decide) (fun c_17 => ?_) (fun c_17 => ?_)
      · replace hf := zit c_17 hf
        refine lv_aload_n hx hb dX7_readNumber_70 rfl (lv_at hl 0 rfl) ?_
        refine va_get (D := D) (ci := 7) (v := .ref (hM 2)) (C := RX7) (T := TX7) (N := 3) hx hb hts hi7 hown hK hP 0 rfl rfl 1 (Nat.le_of_ble_eq_true rfl) (hts _ (List.mem_cons_of_mem _ wd_31)) (fun _ h9 => h9) rfl dX7_readNumber_71 ?_
        refine lv_iload_n hx hb dX7_readNumber_74 rfl (lv_at hl 2 rfl) ?_
        refine lv_iload hx hb dX7_readNumber_75 (lv_at hl 4 rfl) ?_
        obtain ⟨i_M_18, M_18, e_M_18, hf⟩ := zw_some hf
        refine va_iast (n := 3) (f := M 1) (cA := cI) hx hb hK hP hD hS 2 0 rfl rfl i_M_18 dX7_readNumber_77 (fun H locs hP hD hS => ?_)
        have hP : va_P D vwCl (w7 cI cB hM (zs M 1 (upd (M 1) a2.toNatClampNeg x13))) H := hP
        have hD : va_D A (w7 cI cB hM (zs M 1 (upd (M 1) a2.toNatClampNeg x13))) := hD
        rw [← e_M_18] at hP hD
        refine lv_iload_n hx hb dX7_readNumber_78 rfl (lv_at hl 3 rfl) ?_
        cases hf
        exact zretI hx hb hr hlocks hK hP hD hS dX7_readNumber_79
      · replace hf := zif c_17 hf
        refine lv_iconst (v := (-1)) hx hb dX7_readNumber_68 (by decide) ?_
        cases hf
        exact zretI hx hb hr hlocks hK hP hD hS dX7_readNumber_69
def L_X7_readItem_13 (l1 : Int32) (l2 : Int32) : Nat → Int32 → Int32 → zMm → Option (Int32 × zMm)
  | 0, _, _, _ => none
  | n + 1, l3, l4, M => if l2 ≤ l4 then some (l3, M) else zb2 (f_X7_readNumber M l3 l4) (fun (r4 : Int32) (M_5 : zMm) => if r4 = (-1) then some (((-1) : Int32), M_5) else zb1 (f_X7_byteAt M_5 r4) (fun (r8 : Int32) => zb1 (if l2 ≤ (l4 + 1) then some (59 : Int32) else some (44 : Int32)) (fun (y11 : Int32) => if r8 = y11 then zv (r4 + 1) (fun (x15 : Int32) => zv (l4 + 1) (fun (x16 : Int32) => L_X7_readItem_13 l1 l2 n x15 x16 M_5)) else some (((-1) : Int32), M_5))))
def f_X7_readItem (M : zMm) (a1 : Int32) (a2 : Int32) : Option (Int32 × zMm) := if a2 = 0 then some (((-1) : Int32), M) else zv (a1 + 1) (fun (x2 : Int32) => L_X7_readItem_13 a1 a2 100000 x2 0 M)
abbrev ww_X7_readItem : List Cond := Cond.code yX7_readItem cX7_readItem 5 (some .int) :: wG
theorem q_X7_readItem : yX7_readItem.cls = RX7 ∧ yX7_readItem.cls ≠ "java/lang/invoke/MethodHandle" ∧ yX7_readItem.cls ≠ "java/lang/invoke/VarHandle" ∧ (parseMethodDescriptor yX7_readItem.desc).map (fun d => d.parameters.length) = some 2 := by decide +kernel
set_option maxHeartbeats 4000000 in
set_option maxRecDepth 100000 in
theorem c_X7_readItem (l : Launch) (D : va_G) (cI cB : ClassId) (hM : Nat → Nat) (M : zMm) (a1 : Int32) (a2 : Int32) (r0 : Int32) (M0 : zMm) (hf : f_X7_readItem M a1 a2 = some (r0, M0)) : zMi l yX7_readItem ww_X7_readItem ({ frames := 2, cells := 0, slots := 0, locals := 45 } : Room) D cI cB [.ref (hM 0), .int a1, .int a2] (w7 cI cB hM M) r0 (w7 cI cB hM M0) := by
  refine zofI (cc := cX7_readItem) (maxL := 5) (ret := (some .int)) (by decide +kernel) rfl (Nat.le_of_ble_eq_true rfl) ?_
  intro p e s m below meth c A ls hx hb hml hr hown hts hlocks hK hP hD hS hA hl
  have hl : lv_has ls 5 [(0, .ref (hM 0)), (1, .int a1), (2, .int a2)] := hl
  have hown : s.vm.findClass RX7 = some m.cls := hown
  have hG : ∀ w ∈ wG, w ∈ ww_X7_readItem := fun w h => List.mem_cons_of_mem _ h
  have L13 : ∀ (l1 : Int32) (l2 : Int32) (n : Nat) (l3 : Int32) (l4 : Int32) (M : zMm), L_X7_readItem_13 l1 l2 n l3 l4 M = some (r0, M0) → zAt p l e ({ frames := 2, cells := 0, slots := 0, locals := 45 } : Room) s m [.ref (hM 0), .int a1, .int a2].toArray below meth c (MQ below (zQi D cI cB r0 (w7 cI cB hM M0) A) [.ref (hM 0), .int a1, .int a2].toArray s 0 0 A) A D 5 (w7 cI cB hM M) [(0, .ref (hM 0)), (1, .int l1), (2, .int l2), (3, .int l3), (4, .int l4)] 13 [] := by
    intro l1 l2 n
    induction n with
    | zero => intro l3 l4 M hf; simp [L_X7_readItem_13] at hf
    | succ n ih =>
      intro l3 l4 M hf H locs ls hP hD hS hl
      rw [L_X7_readItem_13] at hf
      refine lv_iload hx hb dX7_readItem_13 (lv_at hl 4 rfl) ?_
      refine lv_iload_n hx hb dX7_readItem_15 rfl (lv_at hl 2 rfl) ?_
      refine lv_icmp_ge (tgt := 66) hx hb dX7_readItem_16 (by decide) (fun c_3 => ?_) (fun c_3 => ?_)
      · replace hf := zit c_3 hf
        refine lv_iload_n hx hb dX7_readItem_66 rfl (lv_at hl 3 rfl) ?_
        cases hf
        exact zretI hx hb hr hlocks hK hP hD hS dX7_readItem_67
      · replace hf := zif c_3 hf
        refine lv_aload_n hx hb dX7_readItem_19 rfl (lv_at hl 0 rfl) ?_
        refine lv_iload_n hx hb dX7_readItem_20 rfl (lv_at hl 3 rfl) ?_
        refine lv_iload hx hb dX7_readItem_21 (lv_at hl 4 rfl) ?_
        obtain ⟨r4, M_5, hq6, hf⟩ := zb2_some hf
        refine zcallVi (ws2 := (w7 cI cB hM M_5)) (rest := []) ⟨hx, hb, hml, hown, hts⟩ (c_X7_readNumber l D cI cB hM M l3 l4 r4 M_5 hq6) (cwV 2 hts (z_gV hG wd_303 wd_305 wd_s2 wd_2 wd_306) rfl rfl rfl q_X7_readNumber ⟨Nat.le_of_ble_eq_true rfl, Nat.le_of_ble_eq_true rfl⟩) hK hP hD hS hA 7 rfl rfl rfl [0, 1, 2] [] rfl rfl rfl rfl rfl rfl rfl hl.1 (Nat.le_of_ble_eq_true rfl) dX7_readItem_23 ⟨Nat.zero_le _, Nat.zero_le _⟩ rfl (fun H locs hP hD hS => ?_)
        refine lv_istore_n (lv' := [(3, .int r4), (0, .ref (hM 0)), (1, .int l1), (2, .int l2), (4, .int l4)]) hx hb dX7_readItem_26 rfl hl (by decide) rfl (fun ls hl => ?_)
        refine lv_iload_n hx hb dX7_readItem_27 rfl (lv_at hl 0 rfl) ?_
        refine lv_iconst (v := (-1)) hx hb dX7_readItem_28 (by decide) ?_
        refine lv_icmp_eq (tgt := 55) hx hb dX7_readItem_29 (by decide) (fun c_7 => ?_) (fun c_7 => ?_)
        · replace hf := zit c_7 hf
          refine lv_iconst (v := (-1)) hx hb dX7_readItem_55 (by decide) ?_
          cases hf
          exact zretI hx hb hr hlocks hK hP hD hS dX7_readItem_56
        · replace hf := zif c_7 hf
          refine lv_aload_n hx hb dX7_readItem_32 rfl (lv_at hl 1 rfl) ?_
          refine lv_iload_n hx hb dX7_readItem_33 rfl (lv_at hl 0 rfl) ?_
          obtain ⟨r8, hq9, hf⟩ := zb1_some hf
          refine zcallVi (ws2 := (w7 cI cB hM M_5)) (rest := []) ⟨hx, hb, hml, hown, hts⟩ (c_X7_byteAt l D cI cB hM M_5 r4 r8 hq9) (cwV 1 hts (z_gV hG wd_292 wd_294 wd_s0 wd_2 wd_295) rfl rfl rfl q_X7_byteAt ⟨Nat.le_of_ble_eq_true rfl, Nat.le_of_ble_eq_true rfl⟩) hK hP hD hS hA 7 rfl rfl rfl [0, 1] [2] rfl rfl rfl rfl rfl rfl rfl hl.1 (Nat.le_of_ble_eq_true rfl) dX7_readItem_34 ⟨Nat.zero_le _, Nat.zero_le _⟩ rfl (fun H locs hP hD hS => ?_)
          refine lv_iload hx hb dX7_readItem_37 (lv_at hl 4 rfl) ?_
          refine lv_iconst (v := 1) hx hb dX7_readItem_39 (by decide) ?_
          refine lv_iadd hx hb dX7_readItem_40 ?_
          refine lv_iload_n hx hb dX7_readItem_41 rfl (lv_at hl 3 rfl) ?_
          obtain ⟨y11, hq12, hf⟩ := zb1_some hf
          have J13 : zAt p l e ({ frames := 2, cells := 0, slots := 0, locals := 45 } : Room) s m [.ref (hM 0), .int a1, .int a2].toArray below meth c (MQ below (zQi D cI cB r0 (w7 cI cB hM M0) A) [.ref (hM 0), .int a1, .int a2].toArray s 0 0 A) A D 5 (w7 cI cB hM M_5) [(0, .ref (hM 0)), (1, .int l1), (2, .int l2), (3, .int r4), (4, .int l4)] 52 [.int y11, .int r8] := by
            intro H locs ls hP hD hS hl
            refine lv_icmp_eq (tgt := 57) hx hb dX7_readItem_52 (by decide) (fun c_14 => ?_) (fun c_14 => ?_)
            · replace hf := zit c_14 hf
              obtain ⟨x15, e_x15, hf⟩ := zv_some hf
              refine lv_iinc (v := x15) (lv' := [(3, .int x15), (0, .ref (hM 0)), (1, .int l1), (2, .int l2), (4, .int l4)]) hx hb dX7_readItem_57 hl (k := 3) rfl (by rw [e_x15]; rfl) (by decide) rfl (fun ls hl => ?_)
              obtain ⟨x16, e_x16, hf⟩ := zv_some hf
              refine lv_iinc (v := x16) (lv' := [(4, .int x16), (3, .int x15), (0, .ref (hM 0)), (1, .int l1), (2, .int l2)]) hx hb dX7_readItem_60 hl (k := 4) rfl (by rw [e_x16]; rfl) (by decide) rfl (fun ls hl => ?_)
              refine lv_goto (tgt := 13) hx hb dX7_readItem_63 (by decide) ?_
              exact ih _ _ _ hf _ _ _ hP hD hS (lv_sub hl [2, 3, 4, 1, 0] rfl)
            · replace hf := zif c_14 hf
              refine lv_iconst (v := (-1)) hx hb dX7_readItem_55 (by decide) ?_
              cases hf
              exact zretI hx hb hr hlocks hK hP hD hS dX7_readItem_56
          replace hf := hq12
          refine lv_icmp_ge (tgt := 50) hx hb dX7_readItem_42 (by decide) (fun c_10 => ?_) (fun c_10 => ?_)
          · replace hf := zit c_10 hf
            refine lv_bipush (v := 59) hx hb dX7_readItem_50 (by decide) ?_
            cases hf
            exact J13 _ _ _ hP hD hS (lv_sub hl [1, 2, 3, 0, 4] rfl)
          · replace hf := zif c_10 hf
            refine lv_bipush (v := 44) hx hb dX7_readItem_45 (by decide) ?_
            refine lv_goto (tgt := 52) hx hb dX7_readItem_47 (by decide) ?_
            cases hf
            exact J13 _ _ _ hP hD hS (lv_sub hl [1, 2, 3, 0, 4] rfl)
  unfold f_X7_readItem at hf
  refine lv_iload_n hx hb dX7_readItem_0 rfl (lv_at hl 2 rfl) ?_
  refine lv_if_ne (tgt := 6) hx hb dX7_readItem_1 (by decide) (fun c_1 => ?_) (fun c_1 => ?_)
  · replace hf := zif c_1 hf
    refine lv_iload_n hx hb dX7_readItem_6 rfl (lv_at hl 1 rfl) ?_
    refine lv_iconst (v := 1) hx hb dX7_readItem_7 (by decide) ?_
    refine lv_iadd hx hb dX7_readItem_8 ?_
    obtain ⟨x2, e_x2, hf⟩ := zv_some hf
    refine zt e_x2 ?_
    refine lv_istore_n (lv' := [(3, .int x2), (0, .ref (hM 0)), (1, .int a1), (2, .int a2)]) hx hb dX7_readItem_9 rfl hl (by decide) rfl (fun ls hl => ?_)
    refine lv_iconst (v := 0) hx hb dX7_readItem_10 (by decide) ?_
    refine lv_istore (lv' := [(4, .int 0), (3, .int x2), (0, .ref (hM 0)), (1, .int a1), (2, .int a2)]) hx hb dX7_readItem_11 hl (by decide) rfl (fun ls hl => ?_)
    exact L13 _ _ _ _ _ _ hf _ _ _ hP hD hS (lv_sub hl [2, 3, 4, 1, 0] rfl)
  · replace hf := zit c_1 hf
    refine lv_iconst (v := (-1)) hx hb dX7_readItem_4 (by decide) ?_
    cases hf
    exact zretI hx hb hr hlocks hK hP hD hS dX7_readItem_5
def L_X7_readInto_8  : Nat → Int32 → Int32 → zMm → zMm → Option (Int32 × zMm × zMm)
  | 0, _, _, _, _ => none
  | n + 1, l2, l3, M, P1 => if (300 : Int32) ≤ l3 then some (((-4) : Int32), M, P1) else if (M 2 0) ≤ l2 then some (((-4) : Int32), M, P1) else zb1 (f_X7_byteAt M l2) (fun (r5 : Int32) => zb1 (f_X7_numbersBehind r5) (fun (r7 : Int32) => zb2 (f_X7_readItem M l2 r7) (fun (r9 : Int32) (M_10 : zMm) => if r9 = (-1) then some (l2, M_10, P1) else zb2 (f_X5_takes P1 (fun j => M_10 (1 + j)) r5) (fun (r13 : Int32) (P1_14 : zMm) => if r13 = 0 then some (l2, M_10, P1_14) else zv (l3 + 1) (fun (x17 : Int32) => L_X7_readInto_8  n r9 x17 M_10 P1_14)))))
def f_X7_readInto (M : zMm) (P1 : zMm) : Option (Int32 × zMm × zMm) := zb1 (f_X5_clear P1) (fun (P1_1 : zMm) => L_X7_readInto_8 100000 0 0 M P1_1)
abbrev ww_X7_readInto : List Cond := Cond.code yX7_readInto cX7_readInto 6 (some .int) :: wG
theorem q_X7_readInto : yX7_readInto.cls = RX7 ∧ yX7_readInto.cls ≠ "java/lang/invoke/MethodHandle" ∧ yX7_readInto.cls ≠ "java/lang/invoke/VarHandle" ∧ (parseMethodDescriptor yX7_readInto.desc).map (fun d => d.parameters.length) = some 1 := by decide +kernel
set_option maxHeartbeats 4000000 in
set_option maxRecDepth 100000 in
theorem c_X7_readInto (l : Launch) (D : va_G) (cI cB : ClassId) (hM : Nat → Nat) (hP1 : Nat → Nat) (M : zMm) (P1 : zMm) (r0 : Int32) (M0 : zMm) (P10 : zMm) (hf : f_X7_readInto M P1 = some (r0, M0, P10)) : zMi l yX7_readInto ww_X7_readInto ({ frames := 3, cells := 0, slots := 0, locals := 69 } : Room) D cI cB [.ref (hM 0), .ref (hP1 0)] (w7 cI cB hM M ++ w5 cI cB hP1 P1) r0 (w7 cI cB hM M0 ++ w5 cI cB hP1 P10) := by
  refine zofI (cc := cX7_readInto) (maxL := 6) (ret := (some .int)) (by decide +kernel) rfl (Nat.le_of_ble_eq_true rfl) ?_
  intro p e s m below meth c A ls hx hb hml hr hown hts hlocks hK hP hD hS hA hl
  have hl : lv_has ls 6 [(0, .ref (hM 0)), (1, .ref (hP1 0))] := hl
  have hown : s.vm.findClass RX7 = some m.cls := hown
  have hG : ∀ w ∈ wG, w ∈ ww_X7_readInto := fun w h => List.mem_cons_of_mem _ h
  have hi7 : ∀ w ∈ wsX70, w ∈ ww_X7_readInto := fun w h => List.mem_cons_of_mem _ (z_inX7 w h)
  have L8 : ∀  (n : Nat) (l2 : Int32) (l3 : Int32) (M : zMm) (P1 : zMm), L_X7_readInto_8  n l2 l3 M P1 = some (r0, M0, P10) → zAt p l e ({ frames := 3, cells := 0, slots := 0, locals := 69 } : Room) s m [.ref (hM 0), .ref (hP1 0)].toArray below meth c (MQ below (zQi D cI cB r0 (w7 cI cB hM M0 ++ w5 cI cB hP1 P10) A) [.ref (hM 0), .ref (hP1 0)].toArray s 0 0 A) A D 6 (w7 cI cB hM M ++ w5 cI cB hP1 P1) [(0, .ref (hM 0)), (1, .ref (hP1 0)), (2, .int l2), (3, .int l3)] 8 [] := by
    intro n
    induction n with
    | zero => intro l2 l3 M P1 hf; simp [L_X7_readInto_8] at hf
    | succ n ih =>
      intro l2 l3 M P1 hf H locs ls hP hD hS hl
      rw [L_X7_readInto_8] at hf
      refine lv_iload_n hx hb dX7_readInto_8 rfl (lv_at hl 3 rfl) ?_
      refine lv_sipush (v := 300) hx hb dX7_readInto_9 (by decide) ?_
      refine lv_icmp_ge (tgt := 72) hx hb dX7_readInto_12 (by decide) (fun c_3 => ?_) (fun c_3 => ?_)
      · replace hf := zit c_3 hf
        refine lv_bipush (v := (-4)) hx hb dX7_readInto_72 (by decide) ?_
        cases hf
        exact zretI hx hb hr hlocks hK hP hD hS dX7_readInto_74
      · replace hf := zif c_3 hf
        refine lv_iload_n hx hb dX7_readInto_15 rfl (lv_at hl 2 rfl) ?_
        refine lv_aload_n hx hb dX7_readInto_16 rfl (lv_at hl 0 rfl) ?_
        refine va_get (D := D) (ci := 7) (v := .int (M 2 0)) (C := RX7) (T := TX7) (N := 3) hx hb hts hi7 hown hK hP 0 rfl rfl 2 (Nat.le_of_ble_eq_true rfl) (hts _ (List.mem_cons_of_mem _ wd_32)) (fun _ h9 => h9) rfl dX7_readInto_17 ?_
        refine lv_icmp_ge (tgt := 72) hx hb dX7_readInto_20 (by decide) (fun c_4 => ?_) (fun c_4 => ?_)
        · replace hf := zit c_4 hf
          refine lv_bipush (v := (-4)) hx hb dX7_readInto_72 (by decide) ?_
          cases hf
          exact zretI hx hb hr hlocks hK hP hD hS dX7_readInto_74
        · replace hf := zif c_4 hf
          refine lv_aload_n hx hb dX7_readInto_23 rfl (lv_at hl 0 rfl) ?_
          refine lv_iload_n hx hb dX7_readInto_24 rfl (lv_at hl 2 rfl) ?_
          obtain ⟨r5, hq6, hf⟩ := zb1_some hf
          refine zcallVi (ws2 := (w7 cI cB hM M ++ w5 cI cB hP1 P1)) (rest := []) ⟨hx, hb, hml, hown, hts⟩ (c_X7_byteAt l D cI cB hM M l2 r5 hq6) (cwV 1 hts (z_gV hG wd_292 wd_294 wd_s0 wd_2 wd_295) rfl rfl rfl q_X7_byteAt ⟨Nat.le_of_ble_eq_true rfl, Nat.le_of_ble_eq_true rfl⟩) hK hP hD hS hA 7 rfl rfl rfl [0, 1] [2, 3, 4, 5, 6, 7, 8, 9] rfl rfl rfl rfl rfl rfl rfl hl.1 (Nat.le_of_ble_eq_true rfl) dX7_readInto_25 ⟨Nat.zero_le _, Nat.zero_le _⟩ rfl (fun H locs hP hD hS => ?_)
          refine lv_istore (lv' := [(4, .int r5), (0, .ref (hM 0)), (1, .ref (hP1 0)), (2, .int l2), (3, .int l3)]) hx hb dX7_readInto_28 hl (by decide) rfl (fun ls hl => ?_)
          refine lv_aload_n hx hb dX7_readInto_30 rfl (lv_at hl 1 rfl) ?_
          refine lv_iload_n hx hb dX7_readInto_31 rfl (lv_at hl 3 rfl) ?_
          refine lv_iload hx hb dX7_readInto_32 (lv_at hl 0 rfl) ?_
          obtain ⟨r7, hq8, hf⟩ := zb1_some hf
          refine zcallSi (rest := [.int l2, .ref (hM 0)]) ⟨hx, hb, hml, hown, hts⟩ (c_X7_numbersBehind l D cI cB r5 r7 hq8) (z_cwS 1 hts (z_gS hG wd_296 wd_297 wd_2 wd_298) rfl rfl rfl q_X7_numbersBehind ⟨Nat.le_of_ble_eq_true rfl, Nat.le_of_ble_eq_true rfl⟩) hK hP hD hS hA rfl hl.1 (Nat.le_of_ble_eq_true rfl) dX7_readInto_34 ⟨Nat.zero_le _, Nat.zero_le _⟩ rfl (fun H locs hP hD hS => ?_)
          obtain ⟨r9, M_10, hq11, hf⟩ := zb2_some hf
          refine zcallVi (ws2 := (w7 cI cB hM M_10 ++ w5 cI cB hP1 P1)) (rest := []) ⟨hx, hb, hml, hown, hts⟩ (c_X7_readItem l D cI cB hM M l2 r7 r9 M_10 hq11) (cwV 2 hts (z_gV hG wd_299 wd_301 wd_s1 wd_2 wd_302) rfl rfl rfl q_X7_readItem ⟨Nat.le_of_ble_eq_true rfl, Nat.le_of_ble_eq_true rfl⟩) hK hP hD hS hA 7 rfl rfl rfl [0, 1, 2] [3, 4, 5, 6, 7, 8, 9] rfl rfl rfl (z_em ⟨rfl, rfl, rfl, rfl, rfl, rfl, rfl, trivial⟩) rfl rfl rfl hl.1 (Nat.le_of_ble_eq_true rfl) dX7_readInto_37 ⟨Nat.zero_le _, Nat.zero_le _⟩ rfl (fun H locs hP hD hS => ?_)
          refine lv_istore (lv' := [(5, .int r9), (4, .int r5), (0, .ref (hM 0)), (1, .ref (hP1 0)), (2, .int l2), (3, .int l3)]) hx hb dX7_readInto_40 hl (by decide) rfl (fun ls hl => ?_)
          refine lv_iload hx hb dX7_readInto_42 (lv_at hl 0 rfl) ?_
          refine lv_iconst (v := (-1)) hx hb dX7_readInto_44 (by decide) ?_
          refine lv_icmp_eq (tgt := 61) hx hb dX7_readInto_45 (by decide) (fun c_12 => ?_) (fun c_12 => ?_)
          · replace hf := zit c_12 hf
            refine lv_iload_n hx hb dX7_readInto_61 rfl (lv_at hl 4 rfl) ?_
            cases hf
            exact zretI hx hb hr hlocks hK hP hD hS dX7_readInto_62
          · replace hf := zif c_12 hf
            refine lv_aload_n hx hb dX7_readInto_48 rfl (lv_at hl 3 rfl) ?_
            refine lv_iload hx hb dX7_readInto_49 (lv_at hl 1 rfl) ?_
            refine lv_aload_n hx hb dX7_readInto_51 rfl (lv_at hl 2 rfl) ?_
            refine va_get (D := D) (ci := 7) (v := .ref (hM 2)) (C := RX7) (T := TX7) (N := 3) hx hb hts hi7 hown hK hP 0 rfl rfl 1 (Nat.le_of_ble_eq_true rfl) (hts _ (List.mem_cons_of_mem _ wd_31)) (fun _ h9 => h9) rfl dX7_readInto_52 ?_
            obtain ⟨r13, P1_14, hq15, hf⟩ := zb2_some hf
            refine zcallVi (ws2 := (w7 cI cB hM M_10 ++ w5 cI cB hP1 P1_14)) (rest := []) ⟨hx, hb, hml, hown, hts⟩ (c_X5_takes l D cI cB hP1 (fun j => hM (2 + j)) P1 (fun j => M_10 (1 + j)) r5 r13 P1_14 hq15) (cwV 2 hts (z_gV hG wd_307 wd_308 wd_309 wd_10 wd_310) rfl rfl rfl q_X5_takes ⟨Nat.le_of_ble_eq_true rfl, Nat.le_of_ble_eq_true rfl⟩) hK hP hD hS hA 5 rfl rfl rfl [3, 4, 5, 6, 7, 8, 9, 2] [0, 1] rfl rfl rfl (z_em ⟨rfl, rfl, trivial⟩) rfl rfl rfl hl.1 (Nat.le_of_ble_eq_true rfl) dX7_readInto_55 ⟨Nat.zero_le _, Nat.zero_le _⟩ rfl (fun H locs hP hD hS => ?_)
            refine lv_if_ne (tgt := 63) hx hb dX7_readInto_58 (by decide) (fun c_16 => ?_) (fun c_16 => ?_)
            · replace hf := zif c_16 hf
              refine lv_iload hx hb dX7_readInto_63 (lv_at hl 0 rfl) ?_
              refine lv_istore_n (lv' := [(2, .int r9), (5, .int r9), (4, .int r5), (0, .ref (hM 0)), (1, .ref (hP1 0)), (3, .int l3)]) hx hb dX7_readInto_65 rfl hl (by decide) rfl (fun ls hl => ?_)
              obtain ⟨x17, e_x17, hf⟩ := zv_some hf
              refine lv_iinc (v := x17) (lv' := [(3, .int x17), (2, .int r9), (5, .int r9), (4, .int r5), (0, .ref (hM 0)), (1, .ref (hP1 0))]) hx hb dX7_readInto_66 hl (k := 5) rfl (by rw [e_x17]; rfl) (by decide) rfl (fun ls hl => ?_)
              refine lv_goto (tgt := 8) hx hb dX7_readInto_69 (by decide) ?_
              exact ih _ _ _ _ hf _ _ _ hP hD hS (lv_sub hl [4, 5, 1, 0] rfl)
            · replace hf := zit c_16 hf
              refine lv_iload_n hx hb dX7_readInto_61 rfl (lv_at hl 4 rfl) ?_
              cases hf
              exact zretI hx hb hr hlocks hK hP hD hS dX7_readInto_62
  unfold f_X7_readInto at hf
  refine lv_aload_n hx hb dX7_readInto_0 rfl (lv_at hl 1 rfl) ?_
  obtain ⟨P1_1, hq2, hf⟩ := zb1_some hf
  refine zcallVv (ws2 := (w7 cI cB hM M ++ w5 cI cB hP1 P1_1)) (rest := []) ⟨hx, hb, hml, hown, hts⟩ (c_X5_clear l D cI cB hP1 P1 P1_1 hq2) (cwV 0 hts (z_gV hG wd_288 wd_289 wd_290 wd_10 wd_291) rfl rfl rfl q_X5_clear ⟨Nat.le_of_ble_eq_true rfl, Nat.le_of_ble_eq_true rfl⟩) hK hP hD hS hA 5 rfl rfl rfl [3, 4, 5, 6, 7, 8, 9] [0, 1, 2] rfl rfl rfl (z_em ⟨rfl, rfl, rfl, trivial⟩) rfl rfl rfl hl.1 (Nat.le_of_ble_eq_true rfl) dX7_readInto_1 ⟨Nat.zero_le _, Nat.zero_le _⟩ rfl (fun H locs hP hD hS => ?_)
  refine lv_iconst (v := 0) hx hb dX7_readInto_4 (by decide) ?_
  refine lv_istore_n (lv' := [(2, .int 0), (0, .ref (hM 0)), (1, .ref (hP1 0))]) hx hb dX7_readInto_5 rfl hl (by decide) rfl (fun ls hl => ?_)
  refine lv_iconst (v := 0) hx hb dX7_readInto_6 (by decide) ?_
  refine lv_istore_n (lv' := [(3, .int 0), (2, .int 0), (0, .ref (hM 0)), (1, .ref (hP1 0))]) hx hb dX7_readInto_7 rfl hl (by decide) rfl (fun ls hl => ?_)
  exact L8 _ _ _ _ _ hf _ _ _ hP hD hS (lv_sub hl [2, 3, 1, 0] rfl)
