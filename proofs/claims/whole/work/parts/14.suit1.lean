def f_X8_isLength (a0 : Int32) : Option (Int32) := if a0 < 1 then some (0 : Int32) else if (299 : Int32) < a0 then some (0 : Int32) else some (1 : Int32)
abbrev ww_X8_isLength : List Cond := Cond.code yX8_isLength cX8_isLength 1 (some .boolean) :: wG
theorem q_X8_isLength : yX8_isLength.cls ≠ "java/lang/invoke/MethodHandle" ∧ yX8_isLength.cls ≠ "java/lang/invoke/VarHandle" ∧ (parseMethodDescriptor yX8_isLength.desc).map (fun d => d.parameters.length) = some 1 := by decide +kernel
set_option maxHeartbeats 4000000 in
set_option maxRecDepth 100000 in
theorem c_X8_isLength (l : Launch) (D : va_G) (cI cB : ClassId)  (a0 : Int32) (r0 : Int32) (hf : f_X8_isLength a0 = some r0) : zMi l yX8_isLength ww_X8_isLength ({ frames := 0, cells := 0, slots := 0, locals := 0 } : Room) D cI cB [.int a0] [] r0 [] := by
  refine zofI (cc := cX8_isLength) (maxL := 1) (ret := (some .boolean)) (by decide +kernel) rfl (Nat.le_of_ble_eq_true rfl) ?_
  intro p e s m below meth c A ls hx hb hml hr hown hts hlocks hK hP hD hS hA hl
  have hl : lv_has ls 1 [(0, .int a0)] := hl
  have hown : s.vm.findClass RX8 = some m.cls := hown
  have hG : ∀ w ∈ wG, w ∈ ww_X8_isLength := fun w h => List.mem_cons_of_mem _ h
  unfold f_X8_isLength at hf
  refine lv_iload_n hx hb dX8_isLength_0 rfl (lv_at hl 0 rfl) ?_
  refine lv_iconst (v := 1) hx hb dX8_isLength_1 (by decide) ?_
  refine lv_icmp_lt (tgt := 16) hx hb dX8_isLength_2 (by decide) (fun c_1 => ?_) (fun c_1 => ?_)
  · replace hf := zit c_1 hf
    refine lv_iconst (v := 0) hx hb dX8_isLength_16 (by decide) ?_
    cases hf
    exact zretB hx hb hr hlocks rfl hK hP hD hS dX8_isLength_17
  · replace hf := zif c_1 hf
    refine lv_iload_n hx hb dX8_isLength_5 rfl (lv_at hl 0 rfl) ?_
    refine lv_sipush (v := 299) hx hb dX8_isLength_6 (by decide) ?_
    refine lv_icmp_gt (tgt := 16) hx hb dX8_isLength_9 (by decide) (fun c_2 => ?_) (fun c_2 => ?_)
    · replace hf := zit c_2 hf
      refine lv_iconst (v := 0) hx hb dX8_isLength_16 (by decide) ?_
      cases hf
      exact zretB hx hb hr hlocks rfl hK hP hD hS dX8_isLength_17
    · replace hf := zif c_2 hf
      refine lv_iconst (v := 1) hx hb dX8_isLength_12 (by decide) ?_
      refine lv_goto (tgt := 17) hx hb dX8_isLength_13 (by decide) ?_
      cases hf
      exact zretB hx hb hr hlocks rfl hK hP hD hS dX8_isLength_17
def f_X8_slipNow (M : zMm) (a1 : Int32) : Option (Int32) := zb1 (f_X1_placeOf (fun j => M (3 + j)) a1) (fun (r1 : Int32) => zb1 (f_X5_slip a1 r1 (M 45 0)) (fun (r3 : Int32) => some r3))
abbrev ww_X8_slipNow : List Cond := Cond.code yX8_slipNow cX8_slipNow 2 (some .int) :: wG
theorem q_X8_slipNow : yX8_slipNow.cls = RX8 ∧ yX8_slipNow.cls ≠ "java/lang/invoke/MethodHandle" ∧ yX8_slipNow.cls ≠ "java/lang/invoke/VarHandle" ∧ (parseMethodDescriptor yX8_slipNow.desc).map (fun d => d.parameters.length) = some 1 := by decide +kernel
set_option maxHeartbeats 4000000 in
set_option maxRecDepth 100000 in
theorem c_X8_slipNow (l : Launch) (D : va_G) (cI cB : ClassId) (hM : Nat → Nat) (M : zMm) (a1 : Int32) (r0 : Int32) (hf : f_X8_slipNow M a1 = some r0) : zMi l yX8_slipNow ww_X8_slipNow ({ frames := 2, cells := 0, slots := 0, locals := 46 } : Room) D cI cB [.ref (hM 0), .int a1] [k8_0 cI cB hM M, k8_4 cI cB hM M, k8_5 cI cB hM M, k8_31 cI cB hM M] r0 [k8_0 cI cB hM M, k8_4 cI cB hM M, k8_5 cI cB hM M, k8_31 cI cB hM M] := by
  refine zofI (cc := cX8_slipNow) (maxL := 2) (ret := (some .int)) (by decide +kernel) rfl (Nat.le_of_ble_eq_true rfl) ?_
  intro p e s m below meth c A ls hx hb hml hr hown hts hlocks hK hP hD hS hA hl
  have hl : lv_has ls 2 [(0, .ref (hM 0)), (1, .int a1)] := hl
  have hown : s.vm.findClass RX8 = some m.cls := hown
  have hG : ∀ w ∈ wG, w ∈ ww_X8_slipNow := fun w h => List.mem_cons_of_mem _ h
  have hi5 : ∀ w ∈ wsX50, w ∈ ww_X8_slipNow := fun w h => List.mem_cons_of_mem _ (z_inX5 w h)
  have hi8 : ∀ w ∈ wsX80, w ∈ ww_X8_slipNow := fun w h => List.mem_cons_of_mem _ (z_inX8 w h)
  unfold f_X8_slipNow at hf
  refine lv_iload_n hx hb dX8_slipNow_0 rfl (lv_at hl 1 rfl) ?_
  refine lv_aload_n hx hb dX8_slipNow_1 rfl (lv_at hl 0 rfl) ?_
  refine va_get (D := D) (ci := 8) (v := .ref (hM 4)) (C := RX8) (T := TX8) (N := 14) hx hb hts hi8 hown hK hP 0 rfl rfl 1 (Nat.le_of_ble_eq_true rfl) (hts _ (List.mem_cons_of_mem _ wd_344)) (fun _ h9 => h9) rfl dX8_slipNow_2 ?_
  refine lv_iload_n hx hb dX8_slipNow_5 rfl (lv_at hl 1 rfl) ?_
  obtain ⟨r1, hq2, hf⟩ := zb1_some hf
  refine zcallVi (ws2 := [k8_0 cI cB hM M, k8_4 cI cB hM M, k8_5 cI cB hM M, k8_31 cI cB hM M]) (rest := [.int a1]) ⟨hx, hb, hml, hown, hts⟩ (c_X1_placeOf l D cI cB (fun j => hM (4 + j)) (fun j => M (3 + j)) a1 r1 hq2) (cwV 1 hts (z_gV hG wd_412 wd_413 wd_414 wd_3 wd_415) rfl rfl rfl q_X1_placeOf ⟨Nat.le_of_ble_eq_true rfl, Nat.le_of_ble_eq_true rfl⟩) hK hP hD hS hA 1 rfl rfl rfl [1, 2] [0, 3] rfl rfl rfl rfl rfl rfl rfl hl.1 (Nat.le_of_ble_eq_true rfl) dX8_slipNow_6 ⟨Nat.zero_le _, Nat.zero_le _⟩ rfl (fun H locs hP hD hS => ?_)
  refine lv_aload_n hx hb dX8_slipNow_9 rfl (lv_at hl 0 rfl) ?_
  refine va_get (D := D) (ci := 8) (v := .ref (hM 31)) (C := RX8) (T := TX8) (N := 14) hx hb hts hi8 hown hK hP 0 rfl rfl 12 (Nat.le_of_ble_eq_true rfl) (hts _ (List.mem_cons_of_mem _ wd_355)) (fun _ h9 => h9) rfl dX8_slipNow_10 ?_
  refine va_get (D := D) (ci := 5) (v := .int (M 45 0)) (C := RX5) (T := TX5) (N := 12) hx hb hts hi5 hown hK hP 3 rfl rfl 10 (Nat.le_of_ble_eq_true rfl) (hts _ (List.mem_cons_of_mem _ wd_203)) (fun _ h9 => h9) rfl dX8_slipNow_13 ?_
  obtain ⟨r3, hq4, hf⟩ := zb1_some hf
  refine zcallSi (rest := []) ⟨hx, hb, hml, hown, hts⟩ (c_X5_slip l D cI cB a1 r1 (M 45 0) r3 hq4) (z_cwS 3 hts (z_gS hG wd_420 wd_421 wd_10 wd_422) rfl rfl rfl q_X5_slip ⟨Nat.le_of_ble_eq_true rfl, Nat.le_of_ble_eq_true rfl⟩) hK hP hD hS hA rfl hl.1 (Nat.le_of_ble_eq_true rfl) dX8_slipNow_16 ⟨Nat.zero_le _, Nat.zero_le _⟩ rfl (fun H locs hP hD hS => ?_)
  cases hf
  exact zretI hx hb hr hlocks hK hP hD hS dX8_slipNow_19
def f_X8_lengthNow (M : zMm) (a1 : Int32) : Option (Int32) := zb1 (f_X8_slipNow M a1) (fun (r1 : Int32) => zb1 (f_X5_cutLength (fun j => M (35 + j)) a1 r1) (fun (r3 : Int32) => zl 7 (M 4) a1 (fun v5 => some (r3 + v5))))
abbrev ww_X8_lengthNow : List Cond := Cond.code yX8_lengthNow cX8_lengthNow 2 (some .int) :: wG
theorem q_X8_lengthNow : yX8_lengthNow.cls = RX8 ∧ yX8_lengthNow.cls ≠ "java/lang/invoke/MethodHandle" ∧ yX8_lengthNow.cls ≠ "java/lang/invoke/VarHandle" ∧ (parseMethodDescriptor yX8_lengthNow.desc).map (fun d => d.parameters.length) = some 1 := by decide +kernel
set_option maxHeartbeats 4000000 in
set_option maxRecDepth 100000 in
theorem c_X8_lengthNow (l : Launch) (D : va_G) (cI cB : ClassId) (hM : Nat → Nat) (M : zMm) (a1 : Int32) (r0 : Int32) (hf : f_X8_lengthNow M a1 = some r0) : zMi l yX8_lengthNow ww_X8_lengthNow ({ frames := 3, cells := 0, slots := 0, locals := 67 } : Room) D cI cB [.ref (hM 0), .int a1] [k8_0 cI cB hM M, k8_4 cI cB hM M, k8_5 cI cB hM M, k8_6 cI cB hM M, k8_31 cI cB hM M, k8_32 cI cB hM M, k8_33 cI cB hM M, k8_34 cI cB hM M] r0 [k8_0 cI cB hM M, k8_4 cI cB hM M, k8_5 cI cB hM M, k8_6 cI cB hM M, k8_31 cI cB hM M, k8_32 cI cB hM M, k8_33 cI cB hM M, k8_34 cI cB hM M] := by
  refine zofI (cc := cX8_lengthNow) (maxL := 2) (ret := (some .int)) (by decide +kernel) rfl (Nat.le_of_ble_eq_true rfl) ?_
  intro p e s m below meth c A ls hx hb hml hr hown hts hlocks hK hP hD hS hA hl
  have hl : lv_has ls 2 [(0, .ref (hM 0)), (1, .int a1)] := hl
  have hown : s.vm.findClass RX8 = some m.cls := hown
  have hG : ∀ w ∈ wG, w ∈ ww_X8_lengthNow := fun w h => List.mem_cons_of_mem _ h
  have hi1 : ∀ w ∈ wsX10, w ∈ ww_X8_lengthNow := fun w h => List.mem_cons_of_mem _ (z_inX1 w h)
  have hi8 : ∀ w ∈ wsX80, w ∈ ww_X8_lengthNow := fun w h => List.mem_cons_of_mem _ (z_inX8 w h)
  unfold f_X8_lengthNow at hf
  refine lv_aload_n hx hb dX8_lengthNow_0 rfl (lv_at hl 0 rfl) ?_
  refine va_get (D := D) (ci := 8) (v := .ref (hM 31)) (C := RX8) (T := TX8) (N := 14) hx hb hts hi8 hown hK hP 0 rfl rfl 12 (Nat.le_of_ble_eq_true rfl) (hts _ (List.mem_cons_of_mem _ wd_355)) (fun _ h9 => h9) rfl dX8_lengthNow_1 ?_
  refine lv_iload_n hx hb dX8_lengthNow_4 rfl (lv_at hl 1 rfl) ?_
  refine lv_aload_n hx hb dX8_lengthNow_5 rfl (lv_at hl 0 rfl) ?_
  refine lv_iload_n hx hb dX8_lengthNow_6 rfl (lv_at hl 1 rfl) ?_
  obtain ⟨r1, hq2, hf⟩ := zb1_some hf
  refine zcallVi (ws2 := [k8_0 cI cB hM M, k8_4 cI cB hM M, k8_5 cI cB hM M, k8_6 cI cB hM M, k8_31 cI cB hM M, k8_32 cI cB hM M, k8_33 cI cB hM M, k8_34 cI cB hM M]) (rest := [.int a1, .ref (hM 31)]) ⟨hx, hb, hml, hown, hts⟩ (c_X8_slipNow l D cI cB hM M a1 r1 hq2) (cwV 1 hts (z_gV hG wd_416 wd_418 wd_s9 wd_1 wd_419) rfl rfl rfl q_X8_slipNow ⟨Nat.le_of_ble_eq_true rfl, Nat.le_of_ble_eq_true rfl⟩) hK hP hD hS hA 8 rfl rfl rfl [0, 1, 2, 4] [3, 5, 6, 7] rfl rfl rfl rfl rfl rfl rfl hl.1 (Nat.le_of_ble_eq_true rfl) dX8_lengthNow_7 ⟨Nat.zero_le _, Nat.zero_le _⟩ rfl (fun H locs hP hD hS => ?_)
  obtain ⟨r3, hq4, hf⟩ := zb1_some hf
  refine zcallVi (ws2 := [k8_0 cI cB hM M, k8_4 cI cB hM M, k8_5 cI cB hM M, k8_6 cI cB hM M, k8_31 cI cB hM M, k8_32 cI cB hM M, k8_33 cI cB hM M, k8_34 cI cB hM M]) (rest := []) ⟨hx, hb, hml, hown, hts⟩ (c_X5_cutLength l D cI cB (fun j => hM (31 + j)) (fun j => M (35 + j)) a1 r1 r3 hq4) (cwV 2 hts (z_gV hG wd_431 wd_432 wd_433 wd_10 wd_434) rfl rfl rfl q_X5_cutLength ⟨Nat.le_of_ble_eq_true rfl, Nat.le_of_ble_eq_true rfl⟩) hK hP hD hS hA 5 rfl rfl rfl [4, 5, 6, 7] [0, 1, 2, 3] rfl rfl rfl rfl rfl rfl rfl hl.1 (Nat.le_of_ble_eq_true rfl) dX8_lengthNow_10 ⟨Nat.zero_le _, Nat.zero_le _⟩ rfl (fun H locs hP hD hS => ?_)
  refine lv_aload_n hx hb dX8_lengthNow_13 rfl (lv_at hl 0 rfl) ?_
  refine va_get (D := D) (ci := 8) (v := .ref (hM 4)) (C := RX8) (T := TX8) (N := 14) hx hb hts hi8 hown hK hP 0 rfl rfl 1 (Nat.le_of_ble_eq_true rfl) (hts _ (List.mem_cons_of_mem _ wd_344)) (fun _ h9 => h9) rfl dX8_lengthNow_14 ?_
  refine va_get (D := D) (ci := 1) (v := .ref (hM 6)) (C := RX1) (T := TX1) (N := 2) hx hb hts hi1 hown hK hP 1 rfl rfl 1 (Nat.le_of_ble_eq_true rfl) (hts _ (List.mem_cons_of_mem _ wd_57)) (fun _ h9 => h9) rfl dX8_lengthNow_17 ?_
  refine lv_iload_n hx hb dX8_lengthNow_20 rfl (lv_at hl 1 rfl) ?_
  obtain ⟨i_v5, v5, e_v5, hf⟩ := zl_some hf
  refine va_iald (n := 7) (f := M 4) (cA := cI) hx hb hK hP 3 0 rfl rfl i_v5 dX8_lengthNow_21 ?_
  refine zt e_v5 ?_
  refine lv_iadd hx hb dX8_lengthNow_22 ?_
  cases hf
  exact zretI hx hb hr hlocks hK hP hD hS dX8_lengthNow_23
def L_X8_measureNow_2  : Nat → Int32 → zMm → Option (Int32 × zMm)
  | 0, _, _ => none
  | n + 1, l1, M => if (M 42 0) ≤ l1 then some (l1, M) else zb1 (f_X8_lengthNow M l1) (fun (r2 : Int32) => zw 7 M 31 l1 r2 (fun M_4 => zv (l1 + 1) (fun (x5 : Int32) => L_X8_measureNow_2  n x5 M_4)))
def f_X8_measureNow (M : zMm) : Option (zMm) := zb2 (L_X8_measureNow_2 100000 0 M) (fun (x6 : Int32) (M_7 : zMm) => some M_7)
abbrev ww_X8_measureNow : List Cond := Cond.code yX8_measureNow cX8_measureNow 2 none :: wG
theorem q_X8_measureNow : yX8_measureNow.cls = RX8 ∧ yX8_measureNow.cls ≠ "java/lang/invoke/MethodHandle" ∧ yX8_measureNow.cls ≠ "java/lang/invoke/VarHandle" ∧ (parseMethodDescriptor yX8_measureNow.desc).map (fun d => d.parameters.length) = some 0 := by decide +kernel
set_option maxHeartbeats 4000000 in
set_option maxRecDepth 100000 in
theorem c_X8_measureNow (l : Launch) (D : va_G) (cI cB : ClassId) (hM : Nat → Nat) (M : zMm) (M0 : zMm) (hf : f_X8_measureNow M = some M0) : zMv l yX8_measureNow ww_X8_measureNow ({ frames := 4, cells := 0, slots := 0, locals := 88 } : Room) D cI cB [.ref (hM 0)] (w8 cI cB hM M) (w8 cI cB hM M0) := by
  refine zofV (cc := cX8_measureNow) (maxL := 2) (ret := none) (by decide +kernel) rfl (Nat.le_of_ble_eq_true rfl) ?_
  intro p e s m below meth c A ls hx hb hml hr hown hts hlocks hK hP hD hS hA hl
  have hl : lv_has ls 2 [(0, .ref (hM 0))] := hl
  have hown : s.vm.findClass RX8 = some m.cls := hown
  have hG : ∀ w ∈ wG, w ∈ ww_X8_measureNow := fun w h => List.mem_cons_of_mem _ h
  have hi5 : ∀ w ∈ wsX50, w ∈ ww_X8_measureNow := fun w h => List.mem_cons_of_mem _ (z_inX5 w h)
  have hi8 : ∀ w ∈ wsX80, w ∈ ww_X8_measureNow := fun w h => List.mem_cons_of_mem _ (z_inX8 w h)
  have L2 : ∀  (n : Nat) (l1 : Int32) (M : zMm) (o1 : Int32) (oM : zMm), L_X8_measureNow_2  n l1 M = some (o1, oM) → zAt p l e ({ frames := 4, cells := 0, slots := 0, locals := 88 } : Room) s m [.ref (hM 0)].toArray below meth c (MQ below (zQv D cI cB (w8 cI cB hM M0) A) [.ref (hM 0)].toArray s 0 0 A) A D 2 (w8 cI cB hM oM) [(0, .ref (hM 0)), (1, .int o1)] 30 [] → zAt p l e ({ frames := 4, cells := 0, slots := 0, locals := 88 } : Room) s m [.ref (hM 0)].toArray below meth c (MQ below (zQv D cI cB (w8 cI cB hM M0) A) [.ref (hM 0)].toArray s 0 0 A) A D 2 (w8 cI cB hM M) [(0, .ref (hM 0)), (1, .int l1)] 2 [] := by
    intro n
    induction n with
    | zero => intro l1 M o1 oM hf; simp [L_X8_measureNow_2] at hf
    | succ n ih =>
      intro l1 M o1 oM hf hk H locs ls hP hD hS hl
      rw [L_X8_measureNow_2] at hf
      refine lv_iload_n hx hb dX8_measureNow_2 rfl (lv_at hl 1 rfl) ?_
      refine lv_aload_n hx hb dX8_measureNow_3 rfl (lv_at hl 0 rfl) ?_
      refine va_get (D := D) (ci := 8) (v := .ref (hM 31)) (C := RX8) (T := TX8) (N := 14) hx hb hts hi8 hown hK hP 0 rfl rfl 12 (Nat.le_of_ble_eq_true rfl) (hts _ (List.mem_cons_of_mem _ wd_355)) (fun _ h9 => h9) rfl dX8_measureNow_4 ?_
      refine va_get (D := D) (ci := 5) (v := .int (M 42 0)) (C := RX5) (T := TX5) (N := 12) hx hb hts hi5 hown hK hP 31 rfl rfl 7 (Nat.le_of_ble_eq_true rfl) (hts _ (List.mem_cons_of_mem _ wd_196)) (fun _ h9 => h9) rfl dX8_measureNow_7 ?_
      refine lv_icmp_ge (tgt := 30) hx hb dX8_measureNow_10 (by decide) (fun c_1 => ?_) (fun c_1 => ?_)
      · replace hf := zit c_1 hf
        cases hf
        exact hk _ _ _ hP hD hS (lv_sub hl [0, 1] rfl)
      · replace hf := zif c_1 hf
        refine lv_aload_n hx hb dX8_measureNow_13 rfl (lv_at hl 0 rfl) ?_
        refine va_get (D := D) (ci := 8) (v := .ref (hM 27)) (C := RX8) (T := TX8) (N := 14) hx hb hts hi8 hown hK hP 0 rfl rfl 8 (Nat.le_of_ble_eq_true rfl) (hts _ (List.mem_cons_of_mem _ wd_351)) (fun _ h9 => h9) rfl dX8_measureNow_14 ?_
        refine lv_iload_n hx hb dX8_measureNow_17 rfl (lv_at hl 1 rfl) ?_
        refine lv_aload_n hx hb dX8_measureNow_18 rfl (lv_at hl 0 rfl) ?_
        refine lv_iload_n hx hb dX8_measureNow_19 rfl (lv_at hl 1 rfl) ?_
        obtain ⟨r2, hq3, hf⟩ := zb1_some hf
        refine zcallVi (ws2 := (w8 cI cB hM M)) (rest := [.int l1, .ref (hM 27)]) ⟨hx, hb, hml, hown, hts⟩ (c_X8_lengthNow l D cI cB hM M l1 r2 hq3) (cwV 1 hts (z_gV hG wd_438 wd_440 wd_s10 wd_1 wd_441) rfl rfl rfl q_X8_lengthNow ⟨Nat.le_of_ble_eq_true rfl, Nat.le_of_ble_eq_true rfl⟩) hK hP hD hS hA 8 rfl rfl rfl [0, 4, 5, 6, 31, 32, 33, 34] [1, 2, 3, 7, 8, 9, 10, 11, 12, 13, 14, 15, 16, 17, 18, 19, 20, 21, 22, 23, 24, 25, 26, 27, 28, 29, 30, 35, 36, 37, 38, 39, 40, 41, 42, 43, 44] rfl rfl rfl rfl rfl rfl rfl hl.1 (Nat.le_of_ble_eq_true rfl) dX8_measureNow_20 ⟨Nat.zero_le _, Nat.zero_le _⟩ rfl (fun H locs hP hD hS => ?_)
        obtain ⟨i_M_4, M_4, e_M_4, hf⟩ := zw_some hf
        refine va_iast (n := 7) (f := M 31) (cA := cI) hx hb hK hP hD hS 27 0 rfl rfl i_M_4 dX8_measureNow_23 (fun H locs hP hD hS => ?_)
        have hP : va_P D vwCl (w8 cI cB hM (zs M 31 (upd (M 31) l1.toNatClampNeg r2))) H := hP
        have hD : va_D A (w8 cI cB hM (zs M 31 (upd (M 31) l1.toNatClampNeg r2))) := hD
        rw [← e_M_4] at hP hD
        obtain ⟨x5, e_x5, hf⟩ := zv_some hf
        refine lv_iinc (v := x5) (lv' := [(1, .int x5), (0, .ref (hM 0))]) hx hb dX8_measureNow_24 hl (k := 1) rfl (by rw [e_x5]; rfl) (by decide) rfl (fun ls hl => ?_)
        refine lv_goto (tgt := 2) hx hb dX8_measureNow_27 (by decide) ?_
        exact ih _ _ _ _ hf hk _ _ _ hP hD hS (lv_sub hl [1, 0] rfl)
  unfold f_X8_measureNow at hf
  refine lv_iconst (v := 0) hx hb dX8_measureNow_0 (by decide) ?_
  refine lv_istore_n (lv' := [(1, .int 0), (0, .ref (hM 0))]) hx hb dX8_measureNow_1 rfl hl (by decide) rfl (fun ls hl => ?_)
  obtain ⟨x6, M_7, hq8, hf⟩ := zb2_some hf
  refine L2 _ _ _ _ _ hq8 ?_ _ _ _ hP hD hS (lv_sub hl [1, 0] rfl)
  intro H locs ls hP hD hS hl
  cases hf
  exact zretV hx hb hr hlocks hK hP hD hS dX8_measureNow_30
def L_X8_cutByBoy_2 (l1 : Int32) : Nat → Int32 → zMm → Option (Int32 × zMm)
  | 0, _, _ => none
  | n + 1, l2, M => if (M 42 0) ≤ l2 then some (l2, M) else zb1 (f_X1_placeOf (fun j => M (3 + j)) l2) (fun (r2 : Int32) => zb1 (f_X5_slip l2 r2 l1) (fun (r4 : Int32) => zb1 (f_X5_cutLength (fun j => M (35 + j)) l2 r4) (fun (r6 : Int32) => zw 7 M 33 l2 r6 (fun M_8 => zv (l2 + 1) (fun (x9 : Int32) => L_X8_cutByBoy_2 l1 n x9 M_8)))))
def f_X8_cutByBoy (M : zMm) (a1 : Int32) : Option (zMm) := zb2 (L_X8_cutByBoy_2 a1 100000 0 M) (fun (x10 : Int32) (M_11 : zMm) => some M_11)
abbrev ww_X8_cutByBoy : List Cond := Cond.code yX8_cutByBoy cX8_cutByBoy 3 none :: wG
theorem q_X8_cutByBoy : yX8_cutByBoy.cls = RX8 ∧ yX8_cutByBoy.cls ≠ "java/lang/invoke/MethodHandle" ∧ yX8_cutByBoy.cls ≠ "java/lang/invoke/VarHandle" ∧ (parseMethodDescriptor yX8_cutByBoy.desc).map (fun d => d.parameters.length) = some 1 := by decide +kernel
set_option maxHeartbeats 4000000 in
set_option maxRecDepth 100000 in
theorem c_X8_cutByBoy (l : Launch) (D : va_G) (cI cB : ClassId) (hM : Nat → Nat) (M : zMm) (a1 : Int32) (M0 : zMm) (hf : f_X8_cutByBoy M a1 = some M0) : zMv l yX8_cutByBoy ww_X8_cutByBoy ({ frames := 2, cells := 0, slots := 0, locals := 46 } : Room) D cI cB [.ref (hM 0), .int a1] (w8 cI cB hM M) (w8 cI cB hM M0) := by
  refine zofV (cc := cX8_cutByBoy) (maxL := 3) (ret := none) (by decide +kernel) rfl (Nat.le_of_ble_eq_true rfl) ?_
  intro p e s m below meth c A ls hx hb hml hr hown hts hlocks hK hP hD hS hA hl
  have hl : lv_has ls 3 [(0, .ref (hM 0)), (1, .int a1)] := hl
  have hown : s.vm.findClass RX8 = some m.cls := hown
  have hG : ∀ w ∈ wG, w ∈ ww_X8_cutByBoy := fun w h => List.mem_cons_of_mem _ h
  have hi5 : ∀ w ∈ wsX50, w ∈ ww_X8_cutByBoy := fun w h => List.mem_cons_of_mem _ (z_inX5 w h)
  have hi8 : ∀ w ∈ wsX80, w ∈ ww_X8_cutByBoy := fun w h => List.mem_cons_of_mem _ (z_inX8 w h)
  have L2 : ∀ (l1 : Int32) (n : Nat) (l2 : Int32) (M : zMm) (o2 : Int32) (oM : zMm), L_X8_cutByBoy_2 l1 n l2 M = some (o2, oM) → zAt p l e ({ frames := 2, cells := 0, slots := 0, locals := 46 } : Room) s m [.ref (hM 0), .int a1].toArray below meth c (MQ below (zQv D cI cB (w8 cI cB hM M0) A) [.ref (hM 0), .int a1].toArray s 0 0 A) A D 3 (w8 cI cB hM oM) [(0, .ref (hM 0)), (1, .int l1), (2, .int o2)] 46 [] → zAt p l e ({ frames := 2, cells := 0, slots := 0, locals := 46 } : Room) s m [.ref (hM 0), .int a1].toArray below meth c (MQ below (zQv D cI cB (w8 cI cB hM M0) A) [.ref (hM 0), .int a1].toArray s 0 0 A) A D 3 (w8 cI cB hM M) [(0, .ref (hM 0)), (1, .int l1), (2, .int l2)] 2 [] := by
    intro l1 n
    induction n with
    | zero => intro l2 M o2 oM hf; simp [L_X8_cutByBoy_2] at hf
    | succ n ih =>
      intro l2 M o2 oM hf hk H locs ls hP hD hS hl
      rw [L_X8_cutByBoy_2] at hf
      refine lv_iload_n hx hb dX8_cutByBoy_2 rfl (lv_at hl 2 rfl) ?_
      refine lv_aload_n hx hb dX8_cutByBoy_3 rfl (lv_at hl 0 rfl) ?_
      refine va_get (D := D) (ci := 8) (v := .ref (hM 31)) (C := RX8) (T := TX8) (N := 14) hx hb hts hi8 hown hK hP 0 rfl rfl 12 (Nat.le_of_ble_eq_true rfl) (hts _ (List.mem_cons_of_mem _ wd_355)) (fun _ h9 => h9) rfl dX8_cutByBoy_4 ?_
      refine va_get (D := D) (ci := 5) (v := .int (M 42 0)) (C := RX5) (T := TX5) (N := 12) hx hb hts hi5 hown hK hP 31 rfl rfl 7 (Nat.le_of_ble_eq_true rfl) (hts _ (List.mem_cons_of_mem _ wd_196)) (fun _ h9 => h9) rfl dX8_cutByBoy_7 ?_
      refine lv_icmp_ge (tgt := 46) hx hb dX8_cutByBoy_10 (by decide) (fun c_1 => ?_) (fun c_1 => ?_)
      · replace hf := zit c_1 hf
        cases hf
        exact hk _ _ _ hP hD hS (lv_sub hl [0, 1, 2] rfl)
      · replace hf := zif c_1 hf
        refine lv_aload_n hx hb dX8_cutByBoy_13 rfl (lv_at hl 0 rfl) ?_
        refine va_get (D := D) (ci := 8) (v := .ref (hM 29)) (C := RX8) (T := TX8) (N := 14) hx hb hts hi8 hown hK hP 0 rfl rfl 10 (Nat.le_of_ble_eq_true rfl) (hts _ (List.mem_cons_of_mem _ wd_353)) (fun _ h9 => h9) rfl dX8_cutByBoy_14 ?_
        refine lv_iload_n hx hb dX8_cutByBoy_17 rfl (lv_at hl 2 rfl) ?_
        refine lv_aload_n hx hb dX8_cutByBoy_18 rfl (lv_at hl 0 rfl) ?_
        refine va_get (D := D) (ci := 8) (v := .ref (hM 31)) (C := RX8) (T := TX8) (N := 14) hx hb hts hi8 hown hK hP 0 rfl rfl 12 (Nat.le_of_ble_eq_true rfl) (hts _ (List.mem_cons_of_mem _ wd_355)) (fun _ h9 => h9) rfl dX8_cutByBoy_19 ?_
        refine lv_iload_n hx hb dX8_cutByBoy_22 rfl (lv_at hl 2 rfl) ?_
        refine lv_iload_n hx hb dX8_cutByBoy_23 rfl (lv_at hl 2 rfl) ?_
        refine lv_aload_n hx hb dX8_cutByBoy_24 rfl (lv_at hl 0 rfl) ?_
        refine va_get (D := D) (ci := 8) (v := .ref (hM 4)) (C := RX8) (T := TX8) (N := 14) hx hb hts hi8 hown hK hP 0 rfl rfl 1 (Nat.le_of_ble_eq_true rfl) (hts _ (List.mem_cons_of_mem _ wd_344)) (fun _ h9 => h9) rfl dX8_cutByBoy_25 ?_
        refine lv_iload_n hx hb dX8_cutByBoy_28 rfl (lv_at hl 2 rfl) ?_
        obtain ⟨r2, hq3, hf⟩ := zb1_some hf
        refine zcallVi (ws2 := (w8 cI cB hM M)) (rest := [.int l2, .int l2, .ref (hM 31), .int l2, .ref (hM 29)]) ⟨hx, hb, hml, hown, hts⟩ (c_X1_placeOf l D cI cB (fun j => hM (4 + j)) (fun j => M (3 + j)) l2 r2 hq3) (cwV 1 hts (z_gV hG wd_412 wd_413 wd_414 wd_3 wd_415) rfl rfl rfl q_X1_placeOf ⟨Nat.le_of_ble_eq_true rfl, Nat.le_of_ble_eq_true rfl⟩) hK hP hD hS hA 1 rfl rfl rfl [4, 5] [0, 1, 2, 3, 6, 7, 8, 9, 10, 11, 12, 13, 14, 15, 16, 17, 18, 19, 20, 21, 22, 23, 24, 25, 26, 27, 28, 29, 30, 31, 32, 33, 34, 35, 36, 37, 38, 39, 40, 41, 42, 43, 44] rfl rfl rfl rfl rfl rfl rfl hl.1 (Nat.le_of_ble_eq_true rfl) dX8_cutByBoy_29 ⟨Nat.zero_le _, Nat.zero_le _⟩ rfl (fun H locs hP hD hS => ?_)
        refine lv_iload_n hx hb dX8_cutByBoy_32 rfl (lv_at hl 1 rfl) ?_
        obtain ⟨r4, hq5, hf⟩ := zb1_some hf
        refine zcallSi (rest := [.int l2, .ref (hM 31), .int l2, .ref (hM 29)]) ⟨hx, hb, hml, hown, hts⟩ (c_X5_slip l D cI cB l2 r2 l1 r4 hq5) (z_cwS 3 hts (z_gS hG wd_420 wd_421 wd_10 wd_422) rfl rfl rfl q_X5_slip ⟨Nat.le_of_ble_eq_true rfl, Nat.le_of_ble_eq_true rfl⟩) hK hP hD hS hA rfl hl.1 (Nat.le_of_ble_eq_true rfl) dX8_cutByBoy_33 ⟨Nat.zero_le _, Nat.zero_le _⟩ rfl (fun H locs hP hD hS => ?_)
        obtain ⟨r6, hq7, hf⟩ := zb1_some hf
        refine zcallVi (ws2 := (w8 cI cB hM M)) (rest := [.int l2, .ref (hM 29)]) ⟨hx, hb, hml, hown, hts⟩ (c_X5_cutLength l D cI cB (fun j => hM (31 + j)) (fun j => M (35 + j)) l2 r4 r6 hq7) (cwV 2 hts (z_gV hG wd_431 wd_432 wd_433 wd_10 wd_434) rfl rfl rfl q_X5_cutLength ⟨Nat.le_of_ble_eq_true rfl, Nat.le_of_ble_eq_true rfl⟩) hK hP hD hS hA 5 rfl rfl rfl [31, 32, 33, 34] [0, 1, 2, 3, 4, 5, 6, 7, 8, 9, 10, 11, 12, 13, 14, 15, 16, 17, 18, 19, 20, 21, 22, 23, 24, 25, 26, 27, 28, 29, 30, 35, 36, 37, 38, 39, 40, 41, 42, 43, 44] rfl rfl rfl rfl rfl rfl rfl hl.1 (Nat.le_of_ble_eq_true rfl) dX8_cutByBoy_36 ⟨Nat.zero_le _, Nat.zero_le _⟩ rfl (fun H locs hP hD hS => ?_)
        obtain ⟨i_M_8, M_8, e_M_8, hf⟩ := zw_some hf
        refine va_iast (n := 7) (f := M 33) (cA := cI) hx hb hK hP hD hS 29 0 rfl rfl i_M_8 dX8_cutByBoy_39 (fun H locs hP hD hS => ?_)
        have hP : va_P D vwCl (w8 cI cB hM (zs M 33 (upd (M 33) l2.toNatClampNeg r6))) H := hP
        have hD : va_D A (w8 cI cB hM (zs M 33 (upd (M 33) l2.toNatClampNeg r6))) := hD
        rw [← e_M_8] at hP hD
        obtain ⟨x9, e_x9, hf⟩ := zv_some hf
        refine lv_iinc (v := x9) (lv' := [(2, .int x9), (0, .ref (hM 0)), (1, .int l1)]) hx hb dX8_cutByBoy_40 hl (k := 2) rfl (by rw [e_x9]; rfl) (by decide) rfl (fun ls hl => ?_)
        refine lv_goto (tgt := 2) hx hb dX8_cutByBoy_43 (by decide) ?_
        exact ih _ _ _ _ hf hk _ _ _ hP hD hS (lv_sub hl [1, 2, 0] rfl)
  unfold f_X8_cutByBoy at hf
  refine lv_iconst (v := 0) hx hb dX8_cutByBoy_0 (by decide) ?_
  refine lv_istore_n (lv' := [(2, .int 0), (0, .ref (hM 0)), (1, .int a1)]) hx hb dX8_cutByBoy_1 rfl hl (by decide) rfl (fun ls hl => ?_)
  obtain ⟨x10, M_11, hq12, hf⟩ := zb2_some hf
  refine L2 _ _ _ _ _ _ hq12 ?_ _ _ _ hP hD hS (lv_sub hl [1, 2, 0] rfl)
  intro H locs ls hP hD hS hl
  cases hf
  exact zretV hx hb hr hlocks hK hP hD hS dX8_cutByBoy_46
def L_X8_isClosedByBribing_2 (l1 : Int32) : Nat → Int32 → zMm → Option (Int32 × zMm)
  | 0, _, _ => none
  | n + 1, l2, M => if (M 42 0) ≤ l2 then some (l2, M) else zb1 (if ((l1 >>> (l2 &&& 31)) &&& 1) = 1 then zl 7 (M 32) l2 (fun v7 => some v7) else zl 7 (M 33) l2 (fun v6 => some v6)) (fun (y3 : Int32) => zw 7 M 31 l2 y3 (fun M_8 => zv (l2 + 1) (fun (x9 : Int32) => L_X8_isClosedByBribing_2 l1 n x9 M_8)))
def f_X8_isClosedByBribing (M : zMm) (a1 : Int32) : Option (Int32 × zMm) := zb2 (L_X8_isClosedByBribing_2 a1 100000 0 M) (fun (x10 : Int32) (M_11 : zMm) => zb1 (f_X5_isClosedBy (fun j => M_11 (35 + j)) (fun j => M_11 (31 + j))) (fun (r13 : Int32) => zo r13 (some (r13, M_11))))
abbrev ww_X8_isClosedByBribing : List Cond := Cond.code yX8_isClosedByBribing cX8_isClosedByBribing 3 (some .boolean) :: wG
theorem q_X8_isClosedByBribing : yX8_isClosedByBribing.cls = RX8 ∧ yX8_isClosedByBribing.cls ≠ "java/lang/invoke/MethodHandle" ∧ yX8_isClosedByBribing.cls ≠ "java/lang/invoke/VarHandle" ∧ (parseMethodDescriptor yX8_isClosedByBribing.desc).map (fun d => d.parameters.length) = some 1 := by decide +kernel
set_option maxHeartbeats 4000000 in
set_option maxRecDepth 100000 in
theorem c_X8_isClosedByBribing (l : Launch) (D : va_G) (cI cB : ClassId) (hM : Nat → Nat) (M : zMm) (a1 : Int32) (r0 : Int32) (M0 : zMm) (hf : f_X8_isClosedByBribing M a1 = some (r0, M0)) : zMi l yX8_isClosedByBribing ww_X8_isClosedByBribing ({ frames := 3, cells := 0, slots := 0, locals := 65 } : Room) D cI cB [.ref (hM 0), .int a1] (w8 cI cB hM M) r0 (w8 cI cB hM M0) := by
  refine zofI (cc := cX8_isClosedByBribing) (maxL := 3) (ret := (some .boolean)) (by decide +kernel) rfl (Nat.le_of_ble_eq_true rfl) ?_
  intro p e s m below meth c A ls hx hb hml hr hown hts hlocks hK hP hD hS hA hl
  have hl : lv_has ls 3 [(0, .ref (hM 0)), (1, .int a1)] := hl
  have hown : s.vm.findClass RX8 = some m.cls := hown
  have hG : ∀ w ∈ wG, w ∈ ww_X8_isClosedByBribing := fun w h => List.mem_cons_of_mem _ h
  have hi5 : ∀ w ∈ wsX50, w ∈ ww_X8_isClosedByBribing := fun w h => List.mem_cons_of_mem _ (z_inX5 w h)
  have hi8 : ∀ w ∈ wsX80, w ∈ ww_X8_isClosedByBribing := fun w h => List.mem_cons_of_mem _ (z_inX8 w h)
  have L2 : ∀ (l1 : Int32) (n : Nat) (l2 : Int32) (M : zMm) (o2 : Int32) (oM : zMm), L_X8_isClosedByBribing_2 l1 n l2 M = some (o2, oM) → zAt p l e ({ frames := 3, cells := 0, slots := 0, locals := 65 } : Room) s m [.ref (hM 0), .int a1].toArray below meth c (MQ below (zQi D cI cB r0 (w8 cI cB hM M0) A) [.ref (hM 0), .int a1].toArray s 0 0 A) A D 3 (w8 cI cB hM oM) [(0, .ref (hM 0)), (1, .int l1), (2, .int o2)] 49 [] → zAt p l e ({ frames := 3, cells := 0, slots := 0, locals := 65 } : Room) s m [.ref (hM 0), .int a1].toArray below meth c (MQ below (zQi D cI cB r0 (w8 cI cB hM M0) A) [.ref (hM 0), .int a1].toArray s 0 0 A) A D 3 (w8 cI cB hM M) [(0, .ref (hM 0)), (1, .int l1), (2, .int l2)] 2 [] := by
    intro l1 n
    induction n with
    | zero => intro l2 M o2 oM hf; simp [L_X8_isClosedByBribing_2] at hf
    | succ n ih =>
      intro l2 M o2 oM hf hk H locs ls hP hD hS hl
      rw [L_X8_isClosedByBribing_2] at hf
      refine lv_iload_n hx hb dX8_isClosedByBribing_2 rfl (lv_at hl 2 rfl) ?_
      refine lv_aload_n hx hb dX8_isClosedByBribing_3 rfl (lv_at hl 0 rfl) ?_
      refine va_get (D := D) (ci := 8) (v := .ref (hM 31)) (C := RX8) (T := TX8) (N := 14) hx hb hts hi8 hown hK hP 0 rfl rfl 12 (Nat.le_of_ble_eq_true rfl) (hts _ (List.mem_cons_of_mem _ wd_355)) (fun _ h9 => h9) rfl dX8_isClosedByBribing_4 ?_
      refine va_get (D := D) (ci := 5) (v := .int (M 42 0)) (C := RX5) (T := TX5) (N := 12) hx hb hts hi5 hown hK hP 31 rfl rfl 7 (Nat.le_of_ble_eq_true rfl) (hts _ (List.mem_cons_of_mem _ wd_196)) (fun _ h9 => h9) rfl dX8_isClosedByBribing_7 ?_
      refine lv_icmp_ge (tgt := 49) hx hb dX8_isClosedByBribing_10 (by decide) (fun c_1 => ?_) (fun c_1 => ?_)
      · replace hf := zit c_1 hf
        cases hf
        exact hk _ _ _ hP hD hS (lv_sub hl [0, 1, 2] rfl)
      · replace hf := zif c_1 hf
        refine lv_aload_n hx hb dX8_isClosedByBribing_13 rfl (lv_at hl 0 rfl) ?_
        refine va_get (D := D) (ci := 8) (v := .ref (hM 27)) (C := RX8) (T := TX8) (N := 14) hx hb hts hi8 hown hK hP 0 rfl rfl 8 (Nat.le_of_ble_eq_true rfl) (hts _ (List.mem_cons_of_mem _ wd_351)) (fun _ h9 => h9) rfl dX8_isClosedByBribing_14 ?_
        refine lv_iload_n hx hb dX8_isClosedByBribing_17 rfl (lv_at hl 2 rfl) ?_
        refine lv_iload_n hx hb dX8_isClosedByBribing_18 rfl (lv_at hl 1 rfl) ?_
        refine lv_iload_n hx hb dX8_isClosedByBribing_19 rfl (lv_at hl 2 rfl) ?_
        refine lv_ishr hx hb dX8_isClosedByBribing_20 ?_
        refine lv_iconst (v := 1) hx hb dX8_isClosedByBribing_21 (by decide) ?_
        refine lv_iand hx hb dX8_isClosedByBribing_22 ?_
        refine lv_iconst (v := 1) hx hb dX8_isClosedByBribing_23 (by decide) ?_
        obtain ⟨y3, hq4, hf⟩ := zb1_some hf
        have J5 : zAt p l e ({ frames := 3, cells := 0, slots := 0, locals := 65 } : Room) s m [.ref (hM 0), .int a1].toArray below meth c (MQ below (zQi D cI cB r0 (w8 cI cB hM M0) A) [.ref (hM 0), .int a1].toArray s 0 0 A) A D 3 (w8 cI cB hM M) [(0, .ref (hM 0)), (1, .int l1), (2, .int l2)] 42 [.int y3, .int l2, .ref (hM 27)] := by
          intro H locs ls hP hD hS hl
          obtain ⟨i_M_8, M_8, e_M_8, hf⟩ := zw_some hf
          refine va_iast (n := 7) (f := M 31) (cA := cI) hx hb hK hP hD hS 27 0 rfl rfl i_M_8 dX8_isClosedByBribing_42 (fun H locs hP hD hS => ?_)
          have hP : va_P D vwCl (w8 cI cB hM (zs M 31 (upd (M 31) l2.toNatClampNeg y3))) H := hP
          have hD : va_D A (w8 cI cB hM (zs M 31 (upd (M 31) l2.toNatClampNeg y3))) := hD
          rw [← e_M_8] at hP hD
          obtain ⟨x9, e_x9, hf⟩ := zv_some hf
          refine lv_iinc (v := x9) (lv' := [(2, .int x9), (0, .ref (hM 0)), (1, .int l1)]) hx hb dX8_isClosedByBribing_43 hl (k := 2) rfl (by rw [e_x9]; rfl) (by decide) rfl (fun ls hl => ?_)
          refine lv_goto (tgt := 2) hx hb dX8_isClosedByBribing_46 (by decide) ?_
          exact ih _ _ _ _ hf hk _ _ _ hP hD hS (lv_sub hl [1, 2, 0] rfl)
        replace hf := hq4
        refine lv_icmp_ne (tgt := 36) hx hb dX8_isClosedByBribing_24 (by decide) (fun c_2 => ?_) (fun c_2 => ?_)
        · replace hf := zif c_2 hf
          refine lv_aload_n hx hb dX8_isClosedByBribing_36 rfl (lv_at hl 0 rfl) ?_
          refine va_get (D := D) (ci := 8) (v := .ref (hM 29)) (C := RX8) (T := TX8) (N := 14) hx hb hts hi8 hown hK hP 0 rfl rfl 10 (Nat.le_of_ble_eq_true rfl) (hts _ (List.mem_cons_of_mem _ wd_353)) (fun _ h9 => h9) rfl dX8_isClosedByBribing_37 ?_
          refine lv_iload_n hx hb dX8_isClosedByBribing_40 rfl (lv_at hl 2 rfl) ?_
          obtain ⟨i_v6, v6, e_v6, hf⟩ := zl_some hf
          refine va_iald (n := 7) (f := M 33) (cA := cI) hx hb hK hP 29 0 rfl rfl i_v6 dX8_isClosedByBribing_41 ?_
          refine zt e_v6 ?_
          cases hf
          exact J5 _ _ _ hP hD hS (lv_sub hl [0, 1, 2] rfl)
        · replace hf := zit c_2 hf
          refine lv_aload_n hx hb dX8_isClosedByBribing_27 rfl (lv_at hl 0 rfl) ?_
          refine va_get (D := D) (ci := 8) (v := .ref (hM 28)) (C := RX8) (T := TX8) (N := 14) hx hb hts hi8 hown hK hP 0 rfl rfl 9 (Nat.le_of_ble_eq_true rfl) (hts _ (List.mem_cons_of_mem _ wd_352)) (fun _ h9 => h9) rfl dX8_isClosedByBribing_28 ?_
          refine lv_iload_n hx hb dX8_isClosedByBribing_31 rfl (lv_at hl 2 rfl) ?_
          obtain ⟨i_v7, v7, e_v7, hf⟩ := zl_some hf
          refine va_iald (n := 7) (f := M 32) (cA := cI) hx hb hK hP 28 0 rfl rfl i_v7 dX8_isClosedByBribing_32 ?_
          refine zt e_v7 ?_
          refine lv_goto (tgt := 42) hx hb dX8_isClosedByBribing_33 (by decide) ?_
          cases hf
          exact J5 _ _ _ hP hD hS (lv_sub hl [0, 1, 2] rfl)
  unfold f_X8_isClosedByBribing at hf
  refine lv_iconst (v := 0) hx hb dX8_isClosedByBribing_0 (by decide) ?_
  refine lv_istore_n (lv' := [(2, .int 0), (0, .ref (hM 0)), (1, .int a1)]) hx hb dX8_isClosedByBribing_1 rfl hl (by decide) rfl (fun ls hl => ?_)
  obtain ⟨x10, M_11, hq12, hf⟩ := zb2_some hf
  refine L2 _ _ _ _ _ _ hq12 ?_ _ _ _ hP hD hS (lv_sub hl [1, 2, 0] rfl)
  intro H locs ls hP hD hS hl
  refine lv_aload_n hx hb dX8_isClosedByBribing_49 rfl (lv_at hl 0 rfl) ?_
  refine va_get (D := D) (ci := 8) (v := .ref (hM 31)) (C := RX8) (T := TX8) (N := 14) hx hb hts hi8 hown hK hP 0 rfl rfl 12 (Nat.le_of_ble_eq_true rfl) (hts _ (List.mem_cons_of_mem _ wd_355)) (fun _ h9 => h9) rfl dX8_isClosedByBribing_50 ?_
  refine lv_aload_n hx hb dX8_isClosedByBribing_53 rfl (lv_at hl 0 rfl) ?_
  refine va_get (D := D) (ci := 8) (v := .ref (hM 27)) (C := RX8) (T := TX8) (N := 14) hx hb hts hi8 hown hK hP 0 rfl rfl 8 (Nat.le_of_ble_eq_true rfl) (hts _ (List.mem_cons_of_mem _ wd_351)) (fun _ h9 => h9) rfl dX8_isClosedByBribing_54 ?_
  obtain ⟨r13, hq14, hf⟩ := zb1_some hf
  refine zcallVi (ws2 := (w8 cI cB hM M_11)) (rest := []) ⟨hx, hb, hml, hown, hts⟩ (c_X5_isClosedBy l D cI cB (fun j => hM (31 + j)) (fun j => hM (27 + j)) (fun j => M_11 (35 + j)) (fun j => M_11 (31 + j)) r13 hq14) (cwV 1 hts (z_gV hG wd_470 wd_471 wd_472 wd_10 wd_473) rfl rfl rfl q_X5_isClosedBy ⟨Nat.le_of_ble_eq_true rfl, Nat.le_of_ble_eq_true rfl⟩) hK hP hD hS hA 5 rfl rfl rfl [31, 36, 37, 27] [0, 1, 2, 3, 4, 5, 6, 7, 8, 9, 10, 11, 12, 13, 14, 15, 16, 17, 18, 19, 20, 21, 22, 23, 24, 25, 26, 28, 29, 30, 32, 33, 34, 35, 38, 39, 40, 41, 42, 43, 44] rfl rfl rfl rfl rfl rfl rfl hl.1 (Nat.le_of_ble_eq_true rfl) dX8_isClosedByBribing_57 ⟨Nat.zero_le _, Nat.zero_le _⟩ rfl (fun H locs hP hD hS => ?_)
  obtain ⟨hn, hf⟩ := zo_some hf
  cases hf
  exact zretB hx hb hr hlocks hn hK hP hD hS dX8_isClosedByBribing_60
def L_X8_levelSeams_2  : Nat → Int32 → zMm → Option (Int32 × zMm)
  | 0, _, _ => none
  | n + 1, l1, M => if (M 42 0) ≤ l1 then some (l1, M) else zl 7 (M 31) l1 (fun v2 => zw 7 M 34 l1 v2 (fun M_3 => zv (l1 + 1) (fun (x4 : Int32) => L_X8_levelSeams_2  n x4 M_3)))
def L_X8_levelSeams_46 (l1 : Int32) : Nat → Int32 → zMm → Option (Int32 × zMm)
  | 0, _, _ => none
  | n + 1, l2, M => if (M 43 0) ≤ l2 then some (l2, M) else zl 10 (M 39) l2 (fun v10 => zl 7 (M 34) v10 (fun v11 => zl 10 (M 40) l2 (fun v12 => zl 7 (M 34) v12 (fun v13 => zv (if v13 < v11 then v13 else v11) (fun (x14 : Int32) => zl 10 (M 39) l2 (fun v15 => zw 7 M 34 v15 x14 (fun M_16 => zl 10 (M_16 40) l2 (fun v17 => zw 7 M_16 34 v17 x14 (fun M_18 => zv (l2 + 1) (fun (x19 : Int32) => L_X8_levelSeams_46 l1 n x19 M_18))))))))))
def L_X8_levelSeams_33  : Nat → Int32 → zMm → Option (Int32 × zMm)
  | 0, _, _ => none
  | n + 1, l1, M => if (M 42 0) ≤ l1 then some (l1, M) else zb2 (L_X8_levelSeams_46 l1 100000 0 M) (fun (x9 : Int32) (M_10 : zMm) => zv (l1 + 1) (fun (x12 : Int32) => L_X8_levelSeams_33  n x12 M_10))
def f_X8_levelSeams (M : zMm) : Option (zMm) := zb2 (L_X8_levelSeams_2 100000 0 M) (fun (x5 : Int32) (M_6 : zMm) => zb2 (L_X8_levelSeams_33 100000 1 M_6) (fun (x13 : Int32) (M_14 : zMm) => some M_14))
abbrev ww_X8_levelSeams : List Cond := Cond.code yX8_levelSeams cX8_levelSeams 4 none :: wG
theorem q_X8_levelSeams : yX8_levelSeams.cls = RX8 ∧ yX8_levelSeams.cls ≠ "java/lang/invoke/MethodHandle" ∧ yX8_levelSeams.cls ≠ "java/lang/invoke/VarHandle" ∧ (parseMethodDescriptor yX8_levelSeams.desc).map (fun d => d.parameters.length) = some 0 := by decide +kernel
set_option maxHeartbeats 4000000 in
set_option maxRecDepth 100000 in
theorem c_X8_levelSeams (l : Launch) (D : va_G) (cI cB : ClassId) (hM : Nat → Nat) (M : zMm) (M0 : zMm) (hf : f_X8_levelSeams M = some M0) : zMv l yX8_levelSeams ww_X8_levelSeams ({ frames := 1, cells := 0, slots := 0, locals := 21 } : Room) D cI cB [.ref (hM 0)] (w8 cI cB hM M) (w8 cI cB hM M0) := by
  refine zofV (cc := cX8_levelSeams) (maxL := 4) (ret := none) (by decide +kernel) rfl (Nat.le_of_ble_eq_true rfl) ?_
  intro p e s m below meth c A ls hx hb hml hr hown hts hlocks hK hP hD hS hA hl
  have hl : lv_has ls 4 [(0, .ref (hM 0))] := hl
  have hown : s.vm.findClass RX8 = some m.cls := hown
  have hG : ∀ w ∈ wG, w ∈ ww_X8_levelSeams := fun w h => List.mem_cons_of_mem _ h
  have hi5 : ∀ w ∈ wsX50, w ∈ ww_X8_levelSeams := fun w h => List.mem_cons_of_mem _ (z_inX5 w h)
  have hi8 : ∀ w ∈ wsX80, w ∈ ww_X8_levelSeams := fun w h => List.mem_cons_of_mem _ (z_inX8 w h)
  have L46 : ∀ (l1 : Int32) (n : Nat) (l2 : Int32) (M : zMm) (o2 : Int32) (oM : zMm), L_X8_levelSeams_46 l1 n l2 M = some (o2, oM) → zAt p l e ({ frames := 1, cells := 0, slots := 0, locals := 21 } : Room) s m [.ref (hM 0)].toArray below meth c (MQ below (zQv D cI cB (w8 cI cB hM M0) A) [.ref (hM 0)].toArray s 0 0 A) A D 4 (w8 cI cB hM oM) [(0, .ref (hM 0)), (1, .int l1), (2, .int o2)] 125 [] → zAt p l e ({ frames := 1, cells := 0, slots := 0, locals := 21 } : Room) s m [.ref (hM 0)].toArray below meth c (MQ below (zQv D cI cB (w8 cI cB hM M0) A) [.ref (hM 0)].toArray s 0 0 A) A D 4 (w8 cI cB hM M) [(0, .ref (hM 0)), (1, .int l1), (2, .int l2)] 46 [] := by
    intro l1 n
    induction n with
    | zero => intro l2 M o2 oM hf; simp [L_X8_levelSeams_46] at hf
    | succ n ih =>
      intro l2 M o2 oM hf hk H locs ls hP hD hS hl
      rw [L_X8_levelSeams_46] at hf
      refine lv_iload_n hx hb dX8_levelSeams_46 rfl (lv_at hl 2 rfl) ?_
      refine lv_aload_n hx hb dX8_levelSeams_47 rfl (lv_at hl 0 rfl) ?_
      refine va_get (D := D) (ci := 8) (v := .ref (hM 31)) (C := RX8) (T := TX8) (N := 14) hx hb hts hi8 hown hK hP 0 rfl rfl 12 (Nat.le_of_ble_eq_true rfl) (hts _ (List.mem_cons_of_mem _ wd_355)) (fun _ h9 => h9) rfl dX8_levelSeams_48 ?_
      refine va_get (D := D) (ci := 5) (v := .int (M 43 0)) (C := RX5) (T := TX5) (N := 12) hx hb hts hi5 hown hK hP 31 rfl rfl 8 (Nat.le_of_ble_eq_true rfl) (hts _ (List.mem_cons_of_mem _ wd_199)) (fun _ h9 => h9) rfl dX8_levelSeams_51 ?_
      refine lv_icmp_ge (tgt := 125) hx hb dX8_levelSeams_54 (by decide) (fun c_9 => ?_) (fun c_9 => ?_)
      · replace hf := zit c_9 hf
        cases hf
        exact hk _ _ _ hP hD hS (lv_sub hl [0, 1, 2] rfl)
      · replace hf := zif c_9 hf
        refine lv_aload_n hx hb dX8_levelSeams_57 rfl (lv_at hl 0 rfl) ?_
        refine va_get (D := D) (ci := 8) (v := .ref (hM 30)) (C := RX8) (T := TX8) (N := 14) hx hb hts hi8 hown hK hP 0 rfl rfl 11 (Nat.le_of_ble_eq_true rfl) (hts _ (List.mem_cons_of_mem _ wd_354)) (fun _ h9 => h9) rfl dX8_levelSeams_58 ?_
        refine lv_aload_n hx hb dX8_levelSeams_61 rfl (lv_at hl 0 rfl) ?_
        refine va_get (D := D) (ci := 8) (v := .ref (hM 31)) (C := RX8) (T := TX8) (N := 14) hx hb hts hi8 hown hK hP 0 rfl rfl 12 (Nat.le_of_ble_eq_true rfl) (hts _ (List.mem_cons_of_mem _ wd_355)) (fun _ h9 => h9) rfl dX8_levelSeams_62 ?_
        refine va_get (D := D) (ci := 5) (v := .ref (hM 36)) (C := RX5) (T := TX5) (N := 12) hx hb hts hi5 hown hK hP 31 rfl rfl 4 (Nat.le_of_ble_eq_true rfl) (hts _ (List.mem_cons_of_mem _ wd_187)) (fun _ h9 => h9) rfl dX8_levelSeams_65 ?_
        refine lv_iload_n hx hb dX8_levelSeams_68 rfl (lv_at hl 2 rfl) ?_
        obtain ⟨i_v10, v10, e_v10, hf⟩ := zl_some hf
        refine va_iald (n := 10) (f := M 39) (cA := cI) hx hb hK hP 36 0 rfl rfl i_v10 dX8_levelSeams_69 ?_
        refine zt e_v10 ?_
        obtain ⟨i_v11, v11, e_v11, hf⟩ := zl_some hf
        refine va_iald (n := 7) (f := M 34) (cA := cI) hx hb hK hP 30 0 rfl rfl i_v11 dX8_levelSeams_70 ?_
        refine zt e_v11 ?_
        refine lv_aload_n hx hb dX8_levelSeams_71 rfl (lv_at hl 0 rfl) ?_
        refine va_get (D := D) (ci := 8) (v := .ref (hM 30)) (C := RX8) (T := TX8) (N := 14) hx hb hts hi8 hown hK hP 0 rfl rfl 11 (Nat.le_of_ble_eq_true rfl) (hts _ (List.mem_cons_of_mem _ wd_354)) (fun _ h9 => h9) rfl dX8_levelSeams_72 ?_
        refine lv_aload_n hx hb dX8_levelSeams_75 rfl (lv_at hl 0 rfl) ?_
        refine va_get (D := D) (ci := 8) (v := .ref (hM 31)) (C := RX8) (T := TX8) (N := 14) hx hb hts hi8 hown hK hP 0 rfl rfl 12 (Nat.le_of_ble_eq_true rfl) (hts _ (List.mem_cons_of_mem _ wd_355)) (fun _ h9 => h9) rfl dX8_levelSeams_76 ?_
        refine va_get (D := D) (ci := 5) (v := .ref (hM 37)) (C := RX5) (T := TX5) (N := 12) hx hb hts hi5 hown hK hP 31 rfl rfl 5 (Nat.le_of_ble_eq_true rfl) (hts _ (List.mem_cons_of_mem _ wd_190)) (fun _ h9 => h9) rfl dX8_levelSeams_79 ?_
        refine lv_iload_n hx hb dX8_levelSeams_82 rfl (lv_at hl 2 rfl) ?_
        obtain ⟨i_v12, v12, e_v12, hf⟩ := zl_some hf
        refine va_iald (n := 10) (f := M 40) (cA := cI) hx hb hK hP 37 0 rfl rfl i_v12 dX8_levelSeams_83 ?_
        refine zt e_v12 ?_
        obtain ⟨i_v13, v13, e_v13, hf⟩ := zl_some hf
        refine va_iald (n := 7) (f := M 34) (cA := cI) hx hb hK hP 30 0 rfl rfl i_v13 dX8_levelSeams_84 ?_
        refine zt e_v13 ?_
        obtain ⟨x14, e_x14, hf⟩ := zv_some hf
        refine va_mmin hx hb (hml.trans hl.1.symm) hown (hts _ (List.mem_cons_of_mem _ wd_546)) (hts _ (List.mem_cons_of_mem _ wd_427)) (hts _ (List.mem_cons_of_mem _ wd_5)) (hts _ (List.mem_cons_of_mem _ wd_428)) (Nat.le_of_ble_eq_true rfl) (Nat.le_of_ble_eq_true rfl) (Nat.zero_le _) (Nat.zero_le _) dX8_levelSeams_85 ?_
        refine zt e_x14 ?_
        refine lv_istore_n (lv' := [(3, .int x14), (0, .ref (hM 0)), (1, .int l1), (2, .int l2)]) hx hb dX8_levelSeams_88 rfl hl (by decide) rfl (fun ls hl => ?_)
        refine lv_aload_n hx hb dX8_levelSeams_89 rfl (lv_at hl 1 rfl) ?_
        refine va_get (D := D) (ci := 8) (v := .ref (hM 30)) (C := RX8) (T := TX8) (N := 14) hx hb hts hi8 hown hK hP 0 rfl rfl 11 (Nat.le_of_ble_eq_true rfl) (hts _ (List.mem_cons_of_mem _ wd_354)) (fun _ h9 => h9) rfl dX8_levelSeams_90 ?_
        refine lv_aload_n hx hb dX8_levelSeams_93 rfl (lv_at hl 1 rfl) ?_
        refine va_get (D := D) (ci := 8) (v := .ref (hM 31)) (C := RX8) (T := TX8) (N := 14) hx hb hts hi8 hown hK hP 0 rfl rfl 12 (Nat.le_of_ble_eq_true rfl) (hts _ (List.mem_cons_of_mem _ wd_355)) (fun _ h9 => h9) rfl dX8_levelSeams_94 ?_
        refine va_get (D := D) (ci := 5) (v := .ref (hM 36)) (C := RX5) (T := TX5) (N := 12) hx hb hts hi5 hown hK hP 31 rfl rfl 4 (Nat.le_of_ble_eq_true rfl) (hts _ (List.mem_cons_of_mem _ wd_187)) (fun _ h9 => h9) rfl dX8_levelSeams_97 ?_
        refine lv_iload_n hx hb dX8_levelSeams_100 rfl (lv_at hl 3 rfl) ?_
        obtain ⟨i_v15, v15, e_v15, hf⟩ := zl_some hf
        refine va_iald (n := 10) (f := M 39) (cA := cI) hx hb hK hP 36 0 rfl rfl i_v15 dX8_levelSeams_101 ?_
        refine zt e_v15 ?_
        refine lv_iload_n hx hb dX8_levelSeams_102 rfl (lv_at hl 0 rfl) ?_
        obtain ⟨i_M_16, M_16, e_M_16, hf⟩ := zw_some hf
        refine va_iast (n := 7) (f := M 34) (cA := cI) hx hb hK hP hD hS 30 0 rfl rfl i_M_16 dX8_levelSeams_103 (fun H locs hP hD hS => ?_)
        have hP : va_P D vwCl (w8 cI cB hM (zs M 34 (upd (M 34) v15.toNatClampNeg x14))) H := hP
        have hD : va_D A (w8 cI cB hM (zs M 34 (upd (M 34) v15.toNatClampNeg x14))) := hD
        rw [← e_M_16] at hP hD
        refine lv_aload_n hx hb dX8_levelSeams_104 rfl (lv_at hl 1 rfl) ?_
        refine va_get (D := D) (ci := 8) (v := .ref (hM 30)) (C := RX8) (T := TX8) (N := 14) hx hb hts hi8 hown hK hP 0 rfl rfl 11 (Nat.le_of_ble_eq_true rfl) (hts _ (List.mem_cons_of_mem _ wd_354)) (fun _ h9 => h9) rfl dX8_levelSeams_105 ?_
        refine lv_aload_n hx hb dX8_levelSeams_108 rfl (lv_at hl 1 rfl) ?_
        refine va_get (D := D) (ci := 8) (v := .ref (hM 31)) (C := RX8) (T := TX8) (N := 14) hx hb hts hi8 hown hK hP 0 rfl rfl 12 (Nat.le_of_ble_eq_true rfl) (hts _ (List.mem_cons_of_mem _ wd_355)) (fun _ h9 => h9) rfl dX8_levelSeams_109 ?_
        refine va_get (D := D) (ci := 5) (v := .ref (hM 37)) (C := RX5) (T := TX5) (N := 12) hx hb hts hi5 hown hK hP 31 rfl rfl 5 (Nat.le_of_ble_eq_true rfl) (hts _ (List.mem_cons_of_mem _ wd_190)) (fun _ h9 => h9) rfl dX8_levelSeams_112 ?_
        refine lv_iload_n hx hb dX8_levelSeams_115 rfl (lv_at hl 3 rfl) ?_
        obtain ⟨i_v17, v17, e_v17, hf⟩ := zl_some hf
        refine va_iald (n := 10) (f := M_16 40) (cA := cI) hx hb hK hP 37 0 rfl rfl i_v17 dX8_levelSeams_116 ?_
        refine zt e_v17 ?_
        refine lv_iload_n hx hb dX8_levelSeams_117 rfl (lv_at hl 0 rfl) ?_
        obtain ⟨i_M_18, M_18, e_M_18, hf⟩ := zw_some hf
        refine va_iast (n := 7) (f := M_16 34) (cA := cI) hx hb hK hP hD hS 30 0 rfl rfl i_M_18 dX8_levelSeams_118 (fun H locs hP hD hS => ?_)
        have hP : va_P D vwCl (w8 cI cB hM (zs M_16 34 (upd (M_16 34) v17.toNatClampNeg x14))) H := hP
        have hD : va_D A (w8 cI cB hM (zs M_16 34 (upd (M_16 34) v17.toNatClampNeg x14))) := hD
        rw [← e_M_18] at hP hD
        obtain ⟨x19, e_x19, hf⟩ := zv_some hf
        refine lv_iinc (v := x19) (lv' := [(2, .int x19), (3, .int x14), (0, .ref (hM 0)), (1, .int l1)]) hx hb dX8_levelSeams_119 hl (k := 3) rfl (by rw [e_x19]; rfl) (by decide) rfl (fun ls hl => ?_)
        refine lv_goto (tgt := 46) hx hb dX8_levelSeams_122 (by decide) ?_
        exact ih _ _ _ _ hf hk _ _ _ hP hD hS (lv_sub hl [2, 3, 0] rfl)
  have L33 : ∀  (n : Nat) (l1 : Int32) (M : zMm) (o1 : Int32) (oM : zMm), L_X8_levelSeams_33  n l1 M = some (o1, oM) → zAt p l e ({ frames := 1, cells := 0, slots := 0, locals := 21 } : Room) s m [.ref (hM 0)].toArray below meth c (MQ below (zQv D cI cB (w8 cI cB hM M0) A) [.ref (hM 0)].toArray s 0 0 A) A D 4 (w8 cI cB hM oM) [(0, .ref (hM 0)), (1, .int o1)] 131 [] → zAt p l e ({ frames := 1, cells := 0, slots := 0, locals := 21 } : Room) s m [.ref (hM 0)].toArray below meth c (MQ below (zQv D cI cB (w8 cI cB hM M0) A) [.ref (hM 0)].toArray s 0 0 A) A D 4 (w8 cI cB hM M) [(0, .ref (hM 0)), (1, .int l1)] 33 [] := by
    intro n
    induction n with
    | zero => intro l1 M o1 oM hf; simp [L_X8_levelSeams_33] at hf
    | succ n ih =>
      intro l1 M o1 oM hf hk H locs ls hP hD hS hl
      rw [L_X8_levelSeams_33] at hf
      refine lv_iload_n hx hb dX8_levelSeams_33 rfl (lv_at hl 1 rfl) ?_
      refine lv_aload_n hx hb dX8_levelSeams_34 rfl (lv_at hl 0 rfl) ?_
      refine va_get (D := D) (ci := 8) (v := .ref (hM 31)) (C := RX8) (T := TX8) (N := 14) hx hb hts hi8 hown hK hP 0 rfl rfl 12 (Nat.le_of_ble_eq_true rfl) (hts _ (List.mem_cons_of_mem _ wd_355)) (fun _ h9 => h9) rfl dX8_levelSeams_35 ?_
      refine va_get (D := D) (ci := 5) (v := .int (M 42 0)) (C := RX5) (T := TX5) (N := 12) hx hb hts hi5 hown hK hP 31 rfl rfl 7 (Nat.le_of_ble_eq_true rfl) (hts _ (List.mem_cons_of_mem _ wd_196)) (fun _ h9 => h9) rfl dX8_levelSeams_38 ?_
      refine lv_icmp_ge (tgt := 131) hx hb dX8_levelSeams_41 (by decide) (fun c_8 => ?_) (fun c_8 => ?_)
      · replace hf := zit c_8 hf
        cases hf
        exact hk _ _ _ hP hD hS (lv_sub hl [0, 1] rfl)
      · replace hf := zif c_8 hf
        refine lv_iconst (v := 0) hx hb dX8_levelSeams_44 (by decide) ?_
        refine lv_istore_n (lv' := [(2, .int 0), (0, .ref (hM 0)), (1, .int l1)]) hx hb dX8_levelSeams_45 rfl hl (by decide) rfl (fun ls hl => ?_)
        obtain ⟨x9, M_10, hq11, hf⟩ := zb2_some hf
        refine L46 _ _ _ _ _ _ hq11 ?_ _ _ _ hP hD hS (lv_sub hl [1, 2, 0] rfl)
        intro H locs ls hP hD hS hl
        obtain ⟨x12, e_x12, hf⟩ := zv_some hf
        refine lv_iinc (v := x12) (lv' := [(1, .int x12), (0, .ref (hM 0)), (2, .int x9)]) hx hb dX8_levelSeams_125 hl (k := 1) rfl (by rw [e_x12]; rfl) (by decide) rfl (fun ls hl => ?_)
        refine lv_goto (tgt := 33) hx hb dX8_levelSeams_128 (by decide) ?_
        exact ih _ _ _ _ hf hk _ _ _ hP hD hS (lv_sub hl [1, 0] rfl)
  have L2 : ∀  (n : Nat) (l1 : Int32) (M : zMm) (o1 : Int32) (oM : zMm), L_X8_levelSeams_2  n l1 M = some (o1, oM) → zAt p l e ({ frames := 1, cells := 0, slots := 0, locals := 21 } : Room) s m [.ref (hM 0)].toArray below meth c (MQ below (zQv D cI cB (w8 cI cB hM M0) A) [.ref (hM 0)].toArray s 0 0 A) A D 4 (w8 cI cB hM oM) [(0, .ref (hM 0)), (1, .int o1)] 31 [] → zAt p l e ({ frames := 1, cells := 0, slots := 0, locals := 21 } : Room) s m [.ref (hM 0)].toArray below meth c (MQ below (zQv D cI cB (w8 cI cB hM M0) A) [.ref (hM 0)].toArray s 0 0 A) A D 4 (w8 cI cB hM M) [(0, .ref (hM 0)), (1, .int l1)] 2 [] := by
    intro n
    induction n with
    | zero => intro l1 M o1 oM hf; simp [L_X8_levelSeams_2] at hf
    | succ n ih =>
      intro l1 M o1 oM hf hk H locs ls hP hD hS hl
      rw [L_X8_levelSeams_2] at hf
      refine lv_iload_n hx hb dX8_levelSeams_2 rfl (lv_at hl 1 rfl) ?_
      refine lv_aload_n hx hb dX8_levelSeams_3 rfl (lv_at hl 0 rfl) ?_
      refine va_get (D := D) (ci := 8) (v := .ref (hM 31)) (C := RX8) (T := TX8) (N := 14) hx hb hts hi8 hown hK hP 0 rfl rfl 12 (Nat.le_of_ble_eq_true rfl) (hts _ (List.mem_cons_of_mem _ wd_355)) (fun _ h9 => h9) rfl dX8_levelSeams_4 ?_
      refine va_get (D := D) (ci := 5) (v := .int (M 42 0)) (C := RX5) (T := TX5) (N := 12) hx hb hts hi5 hown hK hP 31 rfl rfl 7 (Nat.le_of_ble_eq_true rfl) (hts _ (List.mem_cons_of_mem _ wd_196)) (fun _ h9 => h9) rfl dX8_levelSeams_7 ?_
      refine lv_icmp_ge (tgt := 31) hx hb dX8_levelSeams_10 (by decide) (fun c_1 => ?_) (fun c_1 => ?_)
      · replace hf := zit c_1 hf
        cases hf
        exact hk _ _ _ hP hD hS (lv_sub hl [0, 1] rfl)
      · replace hf := zif c_1 hf
        refine lv_aload_n hx hb dX8_levelSeams_13 rfl (lv_at hl 0 rfl) ?_
        refine va_get (D := D) (ci := 8) (v := .ref (hM 30)) (C := RX8) (T := TX8) (N := 14) hx hb hts hi8 hown hK hP 0 rfl rfl 11 (Nat.le_of_ble_eq_true rfl) (hts _ (List.mem_cons_of_mem _ wd_354)) (fun _ h9 => h9) rfl dX8_levelSeams_14 ?_
        refine lv_iload_n hx hb dX8_levelSeams_17 rfl (lv_at hl 1 rfl) ?_
        refine lv_aload_n hx hb dX8_levelSeams_18 rfl (lv_at hl 0 rfl) ?_
        refine va_get (D := D) (ci := 8) (v := .ref (hM 27)) (C := RX8) (T := TX8) (N := 14) hx hb hts hi8 hown hK hP 0 rfl rfl 8 (Nat.le_of_ble_eq_true rfl) (hts _ (List.mem_cons_of_mem _ wd_351)) (fun _ h9 => h9) rfl dX8_levelSeams_19 ?_
        refine lv_iload_n hx hb dX8_levelSeams_22 rfl (lv_at hl 1 rfl) ?_
        obtain ⟨i_v2, v2, e_v2, hf⟩ := zl_some hf
        refine va_iald (n := 7) (f := M 31) (cA := cI) hx hb hK hP 27 0 rfl rfl i_v2 dX8_levelSeams_23 ?_
        refine zt e_v2 ?_
        obtain ⟨i_M_3, M_3, e_M_3, hf⟩ := zw_some hf
        refine va_iast (n := 7) (f := M 34) (cA := cI) hx hb hK hP hD hS 30 0 rfl rfl i_M_3 dX8_levelSeams_24 (fun H locs hP hD hS => ?_)
        have hP : va_P D vwCl (w8 cI cB hM (zs M 34 (upd (M 34) l1.toNatClampNeg v2))) H := hP
        have hD : va_D A (w8 cI cB hM (zs M 34 (upd (M 34) l1.toNatClampNeg v2))) := hD
        rw [← e_M_3] at hP hD
        obtain ⟨x4, e_x4, hf⟩ := zv_some hf
        refine lv_iinc (v := x4) (lv' := [(1, .int x4), (0, .ref (hM 0))]) hx hb dX8_levelSeams_25 hl (k := 1) rfl (by rw [e_x4]; rfl) (by decide) rfl (fun ls hl => ?_)
        refine lv_goto (tgt := 2) hx hb dX8_levelSeams_28 (by decide) ?_
        exact ih _ _ _ _ hf hk _ _ _ hP hD hS (lv_sub hl [1, 0] rfl)
  unfold f_X8_levelSeams at hf
  refine lv_iconst (v := 0) hx hb dX8_levelSeams_0 (by decide) ?_
  refine lv_istore_n (lv' := [(1, .int 0), (0, .ref (hM 0))]) hx hb dX8_levelSeams_1 rfl hl (by decide) rfl (fun ls hl => ?_)
  obtain ⟨x5, M_6, hq7, hf⟩ := zb2_some hf
  refine L2 _ _ _ _ _ hq7 ?_ _ _ _ hP hD hS (lv_sub hl [1, 0] rfl)
  intro H locs ls hP hD hS hl
  refine lv_iconst (v := 1) hx hb dX8_levelSeams_31 (by decide) ?_
  refine lv_istore_n (lv' := [(1, .int 1), (0, .ref (hM 0))]) hx hb dX8_levelSeams_32 rfl hl (by decide) rfl (fun ls hl => ?_)
  obtain ⟨x13, M_14, hq15, hf⟩ := zb2_some hf
  refine L33 _ _ _ _ _ hq15 ?_ _ _ _ hP hD hS (lv_sub hl [1, 0] rfl)
  intro H locs ls hP hD hS hl
  cases hf
  exact zretV hx hb hr hlocks hK hP hD hS dX8_levelSeams_131
def L_X8_write_36 (l1 : Int32) (l2 : Int64) : Nat → Int32 → zMm → Option (Int32 × zMm)
  | 0, _, _ => none
  | n + 1, l4, M => if l4 < 0 then some (l4, M) else zb1 (f_X7_append M (((l2.toUInt64 >>> (((8 : Int32) * l4).toInt64.toUInt64 &&& Int64.toUInt64 63)).toInt64).toInt32)) (fun (M_6 : zMm) => zv (zp M 0 3 M_6) (fun (M_8 : zMm) => zv (l4 + (-1)) (fun (x9 : Int32) => L_X8_write_36 l1 l2 n x9 M_8)))
def f_X8_write (M : zMm) (a1 : Int32) (a2 : Int64) : Option (Int32 × zMm) := if a1 < 1 then some (((-1) : Int32), M) else if a1 ≤ 8 then if ((M 2 0) + a1) ≤ 300 then zv (a1 - 1) (fun (x4 : Int32) => zb2 (L_X8_write_36 a1 a2 100000 x4 M) (fun (x10 : Int32) (M_11 : zMm) => some (M_11 2 0, M_11))) else some (((-3) : Int32), M) else some (((-1) : Int32), M)
abbrev ww_X8_write : List Cond := Cond.code yX8_write cX8_write 5 (some .int) :: wG
theorem q_X8_write : yX8_write.cls = RX8 ∧ yX8_write.cls ≠ "java/lang/invoke/MethodHandle" ∧ yX8_write.cls ≠ "java/lang/invoke/VarHandle" ∧ (parseMethodDescriptor yX8_write.desc).map (fun d => d.parameters.length) = some 2 := by decide +kernel
set_option maxHeartbeats 4000000 in
set_option maxRecDepth 100000 in
theorem c_X8_write (l : Launch) (D : va_G) (cI cB : ClassId) (hM : Nat → Nat) (M : zMm) (a1 : Int32) (a2 : Int64) (r0 : Int32) (M0 : zMm) (hf : f_X8_write M a1 a2 = some (r0, M0)) : zMi l yX8_write ww_X8_write ({ frames := 1, cells := 0, slots := 0, locals := 21 } : Room) D cI cB [.ref (hM 0), .int a1, .long a2] (w8 cI cB hM M) r0 (w8 cI cB hM M0) := by
  refine zofI (cc := cX8_write) (maxL := 5) (ret := (some .int)) (by decide +kernel) rfl (Nat.le_of_ble_eq_true rfl) ?_
  intro p e s m below meth c A ls hx hb hml hr hown hts hlocks hK hP hD hS hA hl
  have hl : lv_has ls 5 [(0, .ref (hM 0)), (1, .int a1), (2, .long a2)] := hl
  have hown : s.vm.findClass RX8 = some m.cls := hown
  have hG : ∀ w ∈ wG, w ∈ ww_X8_write := fun w h => List.mem_cons_of_mem _ h
  have hi7 : ∀ w ∈ wsX70, w ∈ ww_X8_write := fun w h => List.mem_cons_of_mem _ (z_inX7 w h)
  have hi8 : ∀ w ∈ wsX80, w ∈ ww_X8_write := fun w h => List.mem_cons_of_mem _ (z_inX8 w h)
  have L36 : ∀ (l1 : Int32) (l2 : Int64) (n : Nat) (l4 : Int32) (M : zMm) (o4 : Int32) (oM : zMm), L_X8_write_36 l1 l2 n l4 M = some (o4, oM) → zAt p l e ({ frames := 1, cells := 0, slots := 0, locals := 21 } : Room) s m [.ref (hM 0), .int a1, .long a2].toArray below meth c (MQ below (zQi D cI cB r0 (w8 cI cB hM M0) A) [.ref (hM 0), .int a1, .long a2].toArray s 0 0 A) A D 5 (w8 cI cB hM oM) [(0, .ref (hM 0)), (1, .int l1), (2, .long l2), (4, .int o4)] 62 [] → zAt p l e ({ frames := 1, cells := 0, slots := 0, locals := 21 } : Room) s m [.ref (hM 0), .int a1, .long a2].toArray below meth c (MQ below (zQi D cI cB r0 (w8 cI cB hM M0) A) [.ref (hM 0), .int a1, .long a2].toArray s 0 0 A) A D 5 (w8 cI cB hM M) [(0, .ref (hM 0)), (1, .int l1), (2, .long l2), (4, .int l4)] 36 [] := by
    intro l1 l2 n
    induction n with
    | zero => intro l4 M o4 oM hf; simp [L_X8_write_36] at hf
    | succ n ih =>
      intro l4 M o4 oM hf hk H locs ls hP hD hS hl
      rw [L_X8_write_36] at hf
      refine lv_iload hx hb dX8_write_36 (lv_at hl 3 rfl) ?_
      refine lv_if_lt (tgt := 62) hx hb dX8_write_38 (by decide) (fun c_5 => ?_) (fun c_5 => ?_)
      · replace hf := zit c_5 hf
        cases hf
        exact hk _ _ _ hP hD hS (lv_sub hl [0, 1, 2, 3] rfl)
      · replace hf := zif c_5 hf
        refine lv_aload_n hx hb dX8_write_41 rfl (lv_at hl 0 rfl) ?_
        refine va_get (D := D) (ci := 8) (v := .ref (hM 1)) (C := RX8) (T := TX8) (N := 14) hx hb hts hi8 hown hK hP 0 rfl rfl 0 (Nat.le_of_ble_eq_true rfl) (hts _ (List.mem_cons_of_mem _ wd_343)) (fun _ h9 => h9) rfl dX8_write_42 ?_
        refine lv_lload_n hx hb dX8_write_45 rfl (lv_at hl 2 rfl) ?_
        refine lv_bipush (v := 8) hx hb dX8_write_46 (by decide) ?_
        refine lv_iload hx hb dX8_write_48 (lv_at hl 3 rfl) ?_
        refine lv_imul hx hb dX8_write_50 ?_
        refine lv_lushr (v := (l2.toUInt64 >>> (((8 : Int32) * l4).toInt64.toUInt64 &&& Int64.toUInt64 63)).toInt64) hx hb dX8_write_51 rfl ?_
        refine lv_l2i hx hb dX8_write_52 rfl ?_
        obtain ⟨M_6, hq7, hf⟩ := zb1_some hf
        refine zcallVv (ws2 := (w8 cI cB hM (zp M 0 3 M_6))) (rest := []) ⟨hx, hb, hml, hown, hts⟩ (c_X7_append l D cI cB (fun j => hM (1 + j)) M (((l2.toUInt64 >>> (((8 : Int32) * l4).toInt64.toUInt64 &&& Int64.toUInt64 63)).toInt64).toInt32) M_6 hq7) (cwV 1 hts (z_gV hG wd_280 wd_281 wd_282 wd_2 wd_283) rfl rfl rfl q_X7_append ⟨Nat.le_of_ble_eq_true rfl, Nat.le_of_ble_eq_true rfl⟩) hK hP hD hS hA 7 rfl rfl rfl [1, 2, 3] [0, 4, 5, 6, 7, 8, 9, 10, 11, 12, 13, 14, 15, 16, 17, 18, 19, 20, 21, 22, 23, 24, 25, 26, 27, 28, 29, 30, 31, 32, 33, 34, 35, 36, 37, 38, 39, 40, 41, 42, 43, 44] rfl rfl rfl (z_em ⟨rfl, rfl, rfl, rfl, rfl, rfl, rfl, rfl, rfl, rfl, rfl, rfl, rfl, rfl, rfl, rfl, rfl, rfl, rfl, rfl, rfl, rfl, rfl, rfl, rfl, rfl, rfl, rfl, rfl, rfl, rfl, rfl, rfl, rfl, rfl, rfl, rfl, rfl, rfl, rfl, rfl, rfl, trivial⟩) rfl rfl rfl hl.1 (Nat.le_of_ble_eq_true rfl) dX8_write_53 ⟨Nat.zero_le _, Nat.zero_le _⟩ rfl (fun H locs hP hD hS => ?_)
        obtain ⟨M_8, e_M_8, hf⟩ := zv_some hf
        rw [← e_M_8] at hP hD
        obtain ⟨x9, e_x9, hf⟩ := zv_some hf
        refine lv_iinc (v := x9) (lv' := [(4, .int x9), (0, .ref (hM 0)), (1, .int l1), (2, .long l2)]) hx hb dX8_write_56 hl (k := 3) rfl (by rw [e_x9]; rfl) (by decide) rfl (fun ls hl => ?_)
        refine lv_goto (tgt := 36) hx hb dX8_write_59 (by decide) ?_
        exact ih _ _ _ _ hf hk _ _ _ hP hD hS (lv_sub hl [1, 2, 3, 0] rfl)
  unfold f_X8_write at hf
  refine lv_iload_n hx hb dX8_write_0 rfl (lv_at hl 1 rfl) ?_
  refine lv_iconst (v := 1) hx hb dX8_write_1 (by decide) ?_
  refine lv_icmp_lt (tgt := 11) hx hb dX8_write_2 (by decide) (fun c_1 => ?_) (fun c_1 => ?_)
  · replace hf := zit c_1 hf
    refine lv_iconst (v := (-1)) hx hb dX8_write_11 (by decide) ?_
    cases hf
    exact zretI hx hb hr hlocks hK hP hD hS dX8_write_12
  · replace hf := zif c_1 hf
    refine lv_iload_n hx hb dX8_write_5 rfl (lv_at hl 1 rfl) ?_
    refine lv_bipush (v := 8) hx hb dX8_write_6 (by decide) ?_
    refine lv_icmp_le (tgt := 13) hx hb dX8_write_8 (by decide) (fun c_2 => ?_) (fun c_2 => ?_)
    · replace hf := zit c_2 hf
      refine lv_aload_n hx hb dX8_write_13 rfl (lv_at hl 0 rfl) ?_
      refine va_get (D := D) (ci := 8) (v := .ref (hM 1)) (C := RX8) (T := TX8) (N := 14) hx hb hts hi8 hown hK hP 0 rfl rfl 0 (Nat.le_of_ble_eq_true rfl) (hts _ (List.mem_cons_of_mem _ wd_343)) (fun _ h9 => h9) rfl dX8_write_14 ?_
      refine va_get (D := D) (ci := 7) (v := .int (M 2 0)) (C := RX7) (T := TX7) (N := 3) hx hb hts hi7 hown hK hP 1 rfl rfl 2 (Nat.le_of_ble_eq_true rfl) (hts _ (List.mem_cons_of_mem _ wd_33)) (fun _ h9 => h9) rfl dX8_write_17 ?_
      refine lv_iload_n hx hb dX8_write_20 rfl (lv_at hl 1 rfl) ?_
      refine lv_iadd hx hb dX8_write_21 ?_
      refine lv_sipush (v := 300) hx hb dX8_write_22 (by decide) ?_
      refine lv_icmp_le (tgt := 31) hx hb dX8_write_25 (by decide) (fun c_3 => ?_) (fun c_3 => ?_)
      · replace hf := zit c_3 hf
        refine lv_iload_n hx hb dX8_write_31 rfl (lv_at hl 1 rfl) ?_
        refine lv_iconst (v := 1) hx hb dX8_write_32 (by decide) ?_
        refine lv_isub hx hb dX8_write_33 ?_
        obtain ⟨x4, e_x4, hf⟩ := zv_some hf
        refine zt e_x4 ?_
        refine lv_istore (lv' := [(4, .int x4), (0, .ref (hM 0)), (1, .int a1), (2, .long a2)]) hx hb dX8_write_34 hl (by decide) rfl (fun ls hl => ?_)
        obtain ⟨x10, M_11, hq12, hf⟩ := zb2_some hf
        refine L36 _ _ _ _ _ _ _ hq12 ?_ _ _ _ hP hD hS (lv_sub hl [1, 2, 3, 0] rfl)
        intro H locs ls hP hD hS hl
        refine lv_aload_n hx hb dX8_write_62 rfl (lv_at hl 0 rfl) ?_
        refine va_get (D := D) (ci := 8) (v := .ref (hM 1)) (C := RX8) (T := TX8) (N := 14) hx hb hts hi8 hown hK hP 0 rfl rfl 0 (Nat.le_of_ble_eq_true rfl) (hts _ (List.mem_cons_of_mem _ wd_343)) (fun _ h9 => h9) rfl dX8_write_63 ?_
        refine va_get (D := D) (ci := 7) (v := .int (M_11 2 0)) (C := RX7) (T := TX7) (N := 3) hx hb hts hi7 hown hK hP 1 rfl rfl 2 (Nat.le_of_ble_eq_true rfl) (hts _ (List.mem_cons_of_mem _ wd_33)) (fun _ h9 => h9) rfl dX8_write_66 ?_
        cases hf
        exact zretI hx hb hr hlocks hK hP hD hS dX8_write_69
      · replace hf := zif c_3 hf
        refine lv_bipush (v := (-3)) hx hb dX8_write_28 (by decide) ?_
        cases hf
        exact zretI hx hb hr hlocks hK hP hD hS dX8_write_30
    · replace hf := zif c_2 hf
      refine lv_iconst (v := (-1)) hx hb dX8_write_11 (by decide) ?_
      cases hf
      exact zretI hx hb hr hlocks hK hP hD hS dX8_write_12
def f_X8_wipe (M : zMm) : Option (Int32 × zMm) := zv (M 2 0) (fun (x1 : Int32) => zv (zs M 2 (fun _ => 0)) (fun (M_2 : zMm) => some (x1, M_2)))
abbrev ww_X8_wipe : List Cond := Cond.code yX8_wipe cX8_wipe 2 (some .int) :: wG
theorem q_X8_wipe : yX8_wipe.cls = RX8 ∧ yX8_wipe.cls ≠ "java/lang/invoke/MethodHandle" ∧ yX8_wipe.cls ≠ "java/lang/invoke/VarHandle" ∧ (parseMethodDescriptor yX8_wipe.desc).map (fun d => d.parameters.length) = some 0 := by decide +kernel
set_option maxHeartbeats 4000000 in
set_option maxRecDepth 100000 in
theorem c_X8_wipe (l : Launch) (D : va_G) (cI cB : ClassId) (hM : Nat → Nat) (M : zMm) (r0 : Int32) (M0 : zMm) (hf : f_X8_wipe M = some (r0, M0)) : zMi l yX8_wipe ww_X8_wipe ({ frames := 0, cells := 0, slots := 0, locals := 0 } : Room) D cI cB [.ref (hM 0)] (w8 cI cB hM M) r0 (w8 cI cB hM M0) := by
  refine zofI (cc := cX8_wipe) (maxL := 2) (ret := (some .int)) (by decide +kernel) rfl (Nat.le_of_ble_eq_true rfl) ?_
  intro p e s m below meth c A ls hx hb hml hr hown hts hlocks hK hP hD hS hA hl
  have hl : lv_has ls 2 [(0, .ref (hM 0))] := hl
  have hown : s.vm.findClass RX8 = some m.cls := hown
  have hG : ∀ w ∈ wG, w ∈ ww_X8_wipe := fun w h => List.mem_cons_of_mem _ h
  have hi7 : ∀ w ∈ wsX70, w ∈ ww_X8_wipe := fun w h => List.mem_cons_of_mem _ (z_inX7 w h)
  have hi8 : ∀ w ∈ wsX80, w ∈ ww_X8_wipe := fun w h => List.mem_cons_of_mem _ (z_inX8 w h)
  unfold f_X8_wipe at hf
  refine lv_aload_n hx hb dX8_wipe_0 rfl (lv_at hl 0 rfl) ?_
  refine va_get (D := D) (ci := 8) (v := .ref (hM 1)) (C := RX8) (T := TX8) (N := 14) hx hb hts hi8 hown hK hP 0 rfl rfl 0 (Nat.le_of_ble_eq_true rfl) (hts _ (List.mem_cons_of_mem _ wd_343)) (fun _ h9 => h9) rfl dX8_wipe_1 ?_
  refine va_get (D := D) (ci := 7) (v := .int (M 2 0)) (C := RX7) (T := TX7) (N := 3) hx hb hts hi7 hown hK hP 1 rfl rfl 2 (Nat.le_of_ble_eq_true rfl) (hts _ (List.mem_cons_of_mem _ wd_33)) (fun _ h9 => h9) rfl dX8_wipe_4 ?_
  obtain ⟨x1, e_x1, hf⟩ := zv_some hf
  refine zt e_x1 ?_
  refine lv_istore_n (lv' := [(1, .int x1), (0, .ref (hM 0))]) hx hb dX8_wipe_7 rfl hl (by decide) rfl (fun ls hl => ?_)
  refine lv_aload_n hx hb dX8_wipe_8 rfl (lv_at hl 1 rfl) ?_
  refine va_get (D := D) (ci := 8) (v := .ref (hM 1)) (C := RX8) (T := TX8) (N := 14) hx hb hts hi8 hown hK hP 0 rfl rfl 0 (Nat.le_of_ble_eq_true rfl) (hts _ (List.mem_cons_of_mem _ wd_343)) (fun _ h9 => h9) rfl dX8_wipe_9 ?_
  refine lv_iconst (v := 0) hx hb dX8_wipe_12 (by decide) ?_
  obtain ⟨M_2, e_M_2, hf⟩ := zv_some hf
  refine va_put (D := D) (ci := 7) (v := .int 0) (ty := .int) (C := RX7) (T := TX7) (N := 3) hx hb hts hi7 tyX7 tyX7_ok nmX7 hown hK hP hD hS 1 rfl rfl 2 (Nat.le_of_ble_eq_true rfl) (hts _ (List.mem_cons_of_mem _ wd_33)) (fun _ h9 => h9) rfl (by decide +kernel) rfl rfl (Nat.le_of_ble_eq_true rfl) dX8_wipe_13 (fun H locs hP hD hS => ?_)
  have hP : va_P D vwCl (w8 cI cB hM (zs M 2 (fun _ => 0))) H := hP
  have hD : va_D A (w8 cI cB hM (zs M 2 (fun _ => 0))) := hD
  rw [← e_M_2] at hP hD
  refine lv_iload_n hx hb dX8_wipe_16 rfl (lv_at hl 0 rfl) ?_
  cases hf
  exact zretI hx hb hr hlocks hK hP hD hS dX8_wipe_17
def f_X8_fault (M : zMm) : Option (Int32 × zMm) := zb3 (f_X7_readInto M (fun j => M (47 + j))) (fun (r1 : Int32) (M_2 : zMm) (M_3 : zMm) => zv (zp (zp M 0 3 M_2) 47 12 M_3) (fun (M_5 : zMm) => some (r1, M_5)))
abbrev ww_X8_fault : List Cond := Cond.code yX8_fault cX8_fault 1 (some .int) :: wG
theorem q_X8_fault : yX8_fault.cls = RX8 ∧ yX8_fault.cls ≠ "java/lang/invoke/MethodHandle" ∧ yX8_fault.cls ≠ "java/lang/invoke/VarHandle" ∧ (parseMethodDescriptor yX8_fault.desc).map (fun d => d.parameters.length) = some 0 := by decide +kernel
set_option maxHeartbeats 4000000 in
set_option maxRecDepth 100000 in
theorem c_X8_fault (l : Launch) (D : va_G) (cI cB : ClassId) (hM : Nat → Nat) (M : zMm) (r0 : Int32) (M0 : zMm) (hf : f_X8_fault M = some (r0, M0)) : zMi l yX8_fault ww_X8_fault ({ frames := 4, cells := 0, slots := 0, locals := 94 } : Room) D cI cB [.ref (hM 0)] (w8 cI cB hM M) r0 (w8 cI cB hM M0) := by
  refine zofI (cc := cX8_fault) (maxL := 1) (ret := (some .int)) (by decide +kernel) rfl (Nat.le_of_ble_eq_true rfl) ?_
  intro p e s m below meth c A ls hx hb hml hr hown hts hlocks hK hP hD hS hA hl
  have hl : lv_has ls 1 [(0, .ref (hM 0))] := hl
  have hown : s.vm.findClass RX8 = some m.cls := hown
  have hG : ∀ w ∈ wG, w ∈ ww_X8_fault := fun w h => List.mem_cons_of_mem _ h
  have hi8 : ∀ w ∈ wsX80, w ∈ ww_X8_fault := fun w h => List.mem_cons_of_mem _ (z_inX8 w h)
  unfold f_X8_fault at hf
  refine lv_aload_n hx hb dX8_fault_0 rfl (lv_at hl 0 rfl) ?_
  refine va_get (D := D) (ci := 8) (v := .ref (hM 1)) (C := RX8) (T := TX8) (N := 14) hx hb hts hi8 hown hK hP 0 rfl rfl 0 (Nat.le_of_ble_eq_true rfl) (hts _ (List.mem_cons_of_mem _ wd_343)) (fun _ h9 => h9) rfl dX8_fault_1 ?_
  refine lv_aload_n hx hb dX8_fault_4 rfl (lv_at hl 0 rfl) ?_
  refine va_get (D := D) (ci := 8) (v := .ref (hM 38)) (C := RX8) (T := TX8) (N := 14) hx hb hts hi8 hown hK hP 0 rfl rfl 13 (Nat.le_of_ble_eq_true rfl) (hts _ (List.mem_cons_of_mem _ wd_356)) (fun _ h9 => h9) rfl dX8_fault_5 ?_
  obtain ⟨r1, M_2, M_3, hq4, hf⟩ := zb3_some hf
  refine zcallVi (ws2 := (w8 cI cB hM (zp (zp M 0 3 M_2) 47 12 M_3))) (rest := []) ⟨hx, hb, hml, hown, hts⟩ (c_X7_readInto l D cI cB (fun j => hM (1 + j)) (fun j => hM (38 + j)) M (fun j => M (47 + j)) r1 M_2 M_3 hq4) (cwV 1 hts (z_gV hG wd_284 wd_285 wd_286 wd_2 wd_287) rfl rfl rfl q_X7_readInto ⟨Nat.le_of_ble_eq_true rfl, Nat.le_of_ble_eq_true rfl⟩) hK hP hD hS hA 7 rfl rfl rfl [1, 2, 3, 38, 39, 40, 41, 42, 43, 44] [0, 4, 5, 6, 7, 8, 9, 10, 11, 12, 13, 14, 15, 16, 17, 18, 19, 20, 21, 22, 23, 24, 25, 26, 27, 28, 29, 30, 31, 32, 33, 34, 35, 36, 37] rfl rfl rfl (z_em ⟨rfl, rfl, rfl, rfl, rfl, rfl, rfl, rfl, rfl, rfl, rfl, rfl, rfl, rfl, rfl, rfl, rfl, rfl, rfl, rfl, rfl, rfl, rfl, rfl, rfl, rfl, rfl, rfl, rfl, rfl, rfl, rfl, rfl, rfl, rfl, trivial⟩) rfl rfl rfl hl.1 (Nat.le_of_ble_eq_true rfl) dX8_fault_8 ⟨Nat.zero_le _, Nat.zero_le _⟩ rfl (fun H locs hP hD hS => ?_)
  obtain ⟨M_5, e_M_5, hf⟩ := zv_some hf
  rw [← e_M_5] at hP hD
  cases hf
  exact zretI hx hb hr hlocks hK hP hD hS dX8_fault_11
def f_X8_lay (M : zMm) : Option (Int32 × Bool × zMm) := zb3 (f_X7_readInto M (fun j => M (47 + j))) (fun (r1 : Int32) (M_2 : zMm) (M_3 : zMm) => zv (zp (zp M 0 3 M_2) 47 12 M_3) (fun (M_5 : zMm) => if r1 = (-4) then if (M_5 54 0) = 0 then some (((-2) : Int32), false, M_5) else zv (zx M_5) (fun (M_8 : zMm) => zb1 (f_X1_startAnew (fun j => M_8 (3 + j))) (fun (M_9 : zMm) => zv (zp M_8 3 2 M_9) (fun (M_11 : zMm) => zb1 (f_X2a_clear (fun j => M_11 (5 + j))) (fun (M_12 : zMm) => zv (zp M_11 5 5 M_12) (fun (M_14 : zMm) => zb1 (f_X2b_clear (fun j => M_14 (10 + j))) (fun (M_15 : zMm) => zv (zp M_14 10 5 M_15) (fun (M_17 : zMm) => zv (zs M_17 18 (fun _ => 0)) (fun (M_18 : zMm) => zv (zs M_18 21 (fun _ => 0)) (fun (M_19 : zMm) => zv (zs M_19 23 (fun _ => 0)) (fun (M_20 : zMm) => some (M_20 42 0, true, M_20))))))))))) else some (((-2) : Int32), false, M_5)))
abbrev ww_X8_lay : List Cond := Cond.code yX8_lay cX8_lay 2 (some .int) :: wG
theorem q_X8_lay : yX8_lay.cls = RX8 ∧ yX8_lay.cls ≠ "java/lang/invoke/MethodHandle" ∧ yX8_lay.cls ≠ "java/lang/invoke/VarHandle" ∧ (parseMethodDescriptor yX8_lay.desc).map (fun d => d.parameters.length) = some 0 := by decide +kernel
set_option maxHeartbeats 4000000 in
set_option maxRecDepth 100000 in
theorem c_X8_lay (l : Launch) (D : va_G) (cI cB : ClassId) (hM : Nat → Nat) (M : zMm) (r0 : Int32) (b0 : Bool) (M0 : zMm) (hf : f_X8_lay M = some (r0, b0, M0)) : zMi l yX8_lay ww_X8_lay ({ frames := 4, cells := 0, slots := 0, locals := 94 } : Room) D cI cB [.ref (hM 0)] (w8 cI cB hM M) r0 (w8 cI cB (zhs b0 hM) M0) := by
  refine zofI (cc := cX8_lay) (maxL := 2) (ret := (some .int)) (by decide +kernel) rfl (Nat.le_of_ble_eq_true rfl) ?_
  intro p e s m below meth c A ls hx hb hml hr hown hts hlocks hK hP hD hS hA hl
  have hl : lv_has ls 2 [(0, .ref (hM 0))] := hl
  have hown : s.vm.findClass RX8 = some m.cls := hown
  have hG : ∀ w ∈ wG, w ∈ ww_X8_lay := fun w h => List.mem_cons_of_mem _ h
  have hi3 : ∀ w ∈ wsX30, w ∈ ww_X8_lay := fun w h => List.mem_cons_of_mem _ (z_inX3 w h)
  have hi4 : ∀ w ∈ wsX40, w ∈ ww_X8_lay := fun w h => List.mem_cons_of_mem _ (z_inX4 w h)
  have hi5 : ∀ w ∈ wsX50, w ∈ ww_X8_lay := fun w h => List.mem_cons_of_mem _ (z_inX5 w h)
  have hi6 : ∀ w ∈ wsX60, w ∈ ww_X8_lay := fun w h => List.mem_cons_of_mem _ (z_inX6 w h)
  have hi8 : ∀ w ∈ wsX80, w ∈ ww_X8_lay := fun w h => List.mem_cons_of_mem _ (z_inX8 w h)
  unfold f_X8_lay at hf
  refine lv_aload_n hx hb dX8_lay_0 rfl (lv_at hl 0 rfl) ?_
  refine va_get (D := D) (ci := 8) (v := .ref (hM 1)) (C := RX8) (T := TX8) (N := 14) hx hb hts hi8 hown hK hP 0 rfl rfl 0 (Nat.le_of_ble_eq_true rfl) (hts _ (List.mem_cons_of_mem _ wd_343)) (fun _ h9 => h9) rfl dX8_lay_1 ?_
  refine lv_aload_n hx hb dX8_lay_4 rfl (lv_at hl 0 rfl) ?_
  refine va_get (D := D) (ci := 8) (v := .ref (hM 38)) (C := RX8) (T := TX8) (N := 14) hx hb hts hi8 hown hK hP 0 rfl rfl 13 (Nat.le_of_ble_eq_true rfl) (hts _ (List.mem_cons_of_mem _ wd_356)) (fun _ h9 => h9) rfl dX8_lay_5 ?_
  obtain ⟨r1, M_2, M_3, hq4, hf⟩ := zb3_some hf
  refine zcallVi (ws2 := (w8 cI cB hM (zp (zp M 0 3 M_2) 47 12 M_3))) (rest := []) ⟨hx, hb, hml, hown, hts⟩ (c_X7_readInto l D cI cB (fun j => hM (1 + j)) (fun j => hM (38 + j)) M (fun j => M (47 + j)) r1 M_2 M_3 hq4) (cwV 1 hts (z_gV hG wd_284 wd_285 wd_286 wd_2 wd_287) rfl rfl rfl q_X7_readInto ⟨Nat.le_of_ble_eq_true rfl, Nat.le_of_ble_eq_true rfl⟩) hK hP hD hS hA 7 rfl rfl rfl [1, 2, 3, 38, 39, 40, 41, 42, 43, 44] [0, 4, 5, 6, 7, 8, 9, 10, 11, 12, 13, 14, 15, 16, 17, 18, 19, 20, 21, 22, 23, 24, 25, 26, 27, 28, 29, 30, 31, 32, 33, 34, 35, 36, 37] rfl rfl rfl (z_em ⟨rfl, rfl, rfl, rfl, rfl, rfl, rfl, rfl, rfl, rfl, rfl, rfl, rfl, rfl, rfl, rfl, rfl, rfl, rfl, rfl, rfl, rfl, rfl, rfl, rfl, rfl, rfl, rfl, rfl, rfl, rfl, rfl, rfl, rfl, rfl, trivial⟩) rfl rfl rfl hl.1 (Nat.le_of_ble_eq_true rfl) dX8_lay_8 ⟨Nat.zero_le _, Nat.zero_le _⟩ rfl (fun H locs hP hD hS => ?_)
  obtain ⟨M_5, e_M_5, hf⟩ := zv_some hf
  rw [← e_M_5] at hP hD
  refine lv_bipush (v := (-4)) hx hb dX8_lay_11 (by decide) ?_
  refine lv_icmp_ne (tgt := 26) hx hb dX8_lay_13 (by decide) (fun c_6 => ?_) (fun c_6 => ?_)
  · replace hf := zif c_6 hf
    refine lv_bipush (v := (-2)) hx hb dX8_lay_26 (by decide) ?_
    cases hf
    exact zretI hx hb hr hlocks hK hP hD hS dX8_lay_28
  · replace hf := zit c_6 hf
    refine lv_aload_n hx hb dX8_lay_16 rfl (lv_at hl 0 rfl) ?_
    refine va_get (D := D) (ci := 8) (v := .ref (hM 38)) (C := RX8) (T := TX8) (N := 14) hx hb hts hi8 hown hK hP 0 rfl rfl 13 (Nat.le_of_ble_eq_true rfl) (hts _ (List.mem_cons_of_mem _ wd_356)) (fun _ h9 => h9) rfl dX8_lay_17 ?_
    refine va_get (D := D) (ci := 5) (v := .int (M_5 54 0)) (C := RX5) (T := TX5) (N := 12) hx hb hts hi5 hown hK hP 38 rfl rfl 7 (Nat.le_of_ble_eq_true rfl) (hts _ (List.mem_cons_of_mem _ wd_196)) (fun _ h9 => h9) rfl dX8_lay_20 ?_
    refine lv_if_ne (tgt := 29) hx hb dX8_lay_23 (by decide) (fun c_7 => ?_) (fun c_7 => ?_)
    · replace hf := zif c_7 hf
      refine lv_aload_n hx hb dX8_lay_29 rfl (lv_at hl 0 rfl) ?_
      refine va_get (D := D) (ci := 8) (v := .ref (hM 31)) (C := RX8) (T := TX8) (N := 14) hx hb hts hi8 hown hK hP 0 rfl rfl 12 (Nat.le_of_ble_eq_true rfl) (hts _ (List.mem_cons_of_mem _ wd_355)) (fun _ h9 => h9) rfl dX8_lay_30 ?_
      refine lv_astore_n (lv' := [(1, .ref (hM 31)), (0, .ref (hM 0))]) hx hb dX8_lay_33 rfl hl (by decide) rfl (fun ls hl => ?_)
      refine lv_aload_n hx hb dX8_lay_34 rfl (lv_at hl 1 rfl) ?_
      refine lv_aload_n hx hb dX8_lay_35 rfl (lv_at hl 1 rfl) ?_
      refine va_get (D := D) (ci := 8) (v := .ref (hM 38)) (C := RX8) (T := TX8) (N := 14) hx hb hts hi8 hown hK hP 0 rfl rfl 13 (Nat.le_of_ble_eq_true rfl) (hts _ (List.mem_cons_of_mem _ wd_356)) (fun _ h9 => h9) rfl dX8_lay_36 ?_
      refine va_put (D := D) (ci := 8) (v := .ref (hM 38)) (ty := .object "SuitByTailors$Plan") (C := RX8) (T := TX8) (N := 14) hx hb hts hi8 tyX8 tyX8_ok nmX8 hown hK hP hD hS 0 rfl rfl 12 (Nat.le_of_ble_eq_true rfl) (hts _ (List.mem_cons_of_mem _ wd_355)) (fun _ h9 => h9) rfl (by decide +kernel) rfl rfl (Nat.le_of_ble_eq_true rfl) dX8_lay_39 (fun H locs hP hD hS => ?_)
      have hP : va_P D vwCl (w8a cI cB hM M_5) H := hP
      have hD : va_D A (w8a cI cB hM M_5) := hD
      refine lv_aload_n hx hb dX8_lay_42 rfl (lv_at hl 1 rfl) ?_
      refine lv_aload_n hx hb dX8_lay_43 rfl (lv_at hl 0 rfl) ?_
      refine va_put (D := D) (ci := 8) (v := .ref (hM 31)) (ty := .object "SuitByTailors$Plan") (C := RX8) (T := TX8) (N := 14) hx hb hts hi8 tyX8 tyX8_ok nmX8 hown hK hP hD hS 0 rfl rfl 13 (Nat.le_of_ble_eq_true rfl) (hts _ (List.mem_cons_of_mem _ wd_356)) (fun _ h9 => h9) rfl (by decide +kernel) rfl rfl (Nat.le_of_ble_eq_true rfl) dX8_lay_44 (fun H locs hP hD hS => ?_)
      have hP : va_P D vwCl (w8b cI cB hM M_5) H := hP
      have hD : va_D A (w8b cI cB hM M_5) := hD
      have hP : va_P D vwCl (w8 cI cB (zh hM) (zx M_5)) H := hP.sub [0, 1, 2, 3, 4, 5, 6, 7, 8, 9, 10, 11, 12, 13, 14, 15, 16, 17, 18, 19, 20, 21, 22, 23, 24, 25, 26, 27, 28, 29, 30, 38, 39, 40, 41, 42, 43, 44, 31, 32, 33, 34, 35, 36, 37] (z_fm (w2 := (w8 cI cB (zh hM) (zx M_5))) z_lay)
      have hD : va_D A (w8 cI cB (zh hM) (zx M_5)) := hD.sub [0, 1, 2, 3, 4, 5, 6, 7, 8, 9, 10, 11, 12, 13, 14, 15, 16, 17, 18, 19, 20, 21, 22, 23, 24, 25, 26, 27, 28, 29, 30, 38, 39, 40, 41, 42, 43, 44, 31, 32, 33, 34, 35, 36, 37] rfl z_lay
      have hl : lv_has ls 2 [(0, .ref ((zh hM) 0))] := lv_sub hl [1] rfl
      obtain ⟨M_8, e_M_8, hf⟩ := zv_some hf
      rw [← e_M_8] at hP hD
      refine lv_aload_n hx hb dX8_lay_47 rfl (lv_at hl 0 rfl) ?_
      refine va_get (D := D) (ci := 8) (v := .ref ((zh hM) 4)) (C := RX8) (T := TX8) (N := 14) hx hb hts hi8 hown hK hP 0 rfl rfl 1 (Nat.le_of_ble_eq_true rfl) (hts _ (List.mem_cons_of_mem _ wd_344)) (fun _ h9 => h9) rfl dX8_lay_48 ?_
      obtain ⟨M_9, hq10, hf⟩ := zb1_some hf
      refine zcallVv (ws2 := (w8 cI cB (zh hM) (zp M_8 3 2 M_9))) (rest := []) ⟨hx, hb, hml, hown, hts⟩ (c_X1_startAnew l D cI cB (fun j => (zh hM) (4 + j)) (fun j => M_8 (3 + j)) M_9 hq10) (cwV 0 hts (z_gV hG wd_402 wd_50 wd_51 wd_3 wd_52) rfl rfl rfl q_X1_startAnew ⟨Nat.le_of_ble_eq_true rfl, Nat.le_of_ble_eq_true rfl⟩) hK hP hD hS hA 1 rfl rfl rfl [4, 5, 6] [0, 1, 2, 3, 7, 8, 9, 10, 11, 12, 13, 14, 15, 16, 17, 18, 19, 20, 21, 22, 23, 24, 25, 26, 27, 28, 29, 30, 31, 32, 33, 34, 35, 36, 37, 38, 39, 40, 41, 42, 43, 44] rfl rfl rfl (z_em ⟨rfl, rfl, rfl, rfl, rfl, rfl, rfl, rfl, rfl, rfl, rfl, rfl, rfl, rfl, rfl, rfl, rfl, rfl, rfl, rfl, rfl, rfl, rfl, rfl, rfl, rfl, rfl, rfl, rfl, rfl, rfl, rfl, rfl, rfl, rfl, rfl, rfl, rfl, rfl, rfl, rfl, rfl, trivial⟩) rfl rfl rfl hl.1 (Nat.le_of_ble_eq_true rfl) dX8_lay_51 ⟨Nat.zero_le _, Nat.zero_le _⟩ rfl (fun H locs hP hD hS => ?_)
      obtain ⟨M_11, e_M_11, hf⟩ := zv_some hf
      rw [← e_M_11] at hP hD
      refine lv_aload_n hx hb dX8_lay_54 rfl (lv_at hl 0 rfl) ?_
      refine va_get (D := D) (ci := 8) (v := .ref ((zh hM) 7)) (C := RX8) (T := TX8) (N := 14) hx hb hts hi8 hown hK hP 0 rfl rfl 2 (Nat.le_of_ble_eq_true rfl) (hts _ (List.mem_cons_of_mem _ wd_345)) (fun _ h9 => h9) rfl dX8_lay_55 ?_
      obtain ⟨M_12, hq13, hf⟩ := zb1_some hf
      refine zcallVv (ws2 := (w8 cI cB (zh hM) (zp M_11 5 5 M_12))) (rest := []) ⟨hx, hb, hml, hown, hts⟩ (c_X2a_clear l D cI cB (fun j => (zh hM) (7 + j)) (fun j => M_11 (5 + j)) M_12 hq13) (cwV 0 hts (z_gV hG wd_403 wd_404 wd_405 wd_4 wd_406) rfl rfl rfl q_X2a_clear ⟨Nat.le_of_ble_eq_true rfl, Nat.le_of_ble_eq_true rfl⟩) hK hP hD hS hA 2 rfl rfl rfl [7, 8, 9] [0, 1, 2, 3, 4, 5, 6, 10, 11, 12, 13, 14, 15, 16, 17, 18, 19, 20, 21, 22, 23, 24, 25, 26, 27, 28, 29, 30, 31, 32, 33, 34, 35, 36, 37, 38, 39, 40, 41, 42, 43, 44] rfl rfl rfl (z_em ⟨rfl, rfl, rfl, rfl, rfl, rfl, rfl, rfl, rfl, rfl, rfl, rfl, rfl, rfl, rfl, rfl, rfl, rfl, rfl, rfl, rfl, rfl, rfl, rfl, rfl, rfl, rfl, rfl, rfl, rfl, rfl, rfl, rfl, rfl, rfl, rfl, rfl, rfl, rfl, rfl, rfl, rfl, trivial⟩) rfl rfl rfl hl.1 (Nat.le_of_ble_eq_true rfl) dX8_lay_58 ⟨Nat.zero_le _, Nat.zero_le _⟩ rfl (fun H locs hP hD hS => ?_)
      obtain ⟨M_14, e_M_14, hf⟩ := zv_some hf
      rw [← e_M_14] at hP hD
      refine lv_aload_n hx hb dX8_lay_61 rfl (lv_at hl 0 rfl) ?_
      refine va_get (D := D) (ci := 8) (v := .ref ((zh hM) 10)) (C := RX8) (T := TX8) (N := 14) hx hb hts hi8 hown hK hP 0 rfl rfl 3 (Nat.le_of_ble_eq_true rfl) (hts _ (List.mem_cons_of_mem _ wd_346)) (fun _ h9 => h9) rfl dX8_lay_62 ?_
      obtain ⟨M_15, hq16, hf⟩ := zb1_some hf
      refine zcallVv (ws2 := (w8 cI cB (zh hM) (zp M_14 10 5 M_15))) (rest := []) ⟨hx, hb, hml, hown, hts⟩ (c_X2b_clear l D cI cB (fun j => (zh hM) (10 + j)) (fun j => M_14 (10 + j)) M_15 hq16) (cwV 0 hts (z_gV hG wd_403 wd_404 wd_405 wd_4 wd_406) rfl rfl rfl q_X2b_clear ⟨Nat.le_of_ble_eq_true rfl, Nat.le_of_ble_eq_true rfl⟩) hK hP hD hS hA 2 rfl rfl rfl [10, 11, 12] [0, 1, 2, 3, 4, 5, 6, 7, 8, 9, 13, 14, 15, 16, 17, 18, 19, 20, 21, 22, 23, 24, 25, 26, 27, 28, 29, 30, 31, 32, 33, 34, 35, 36, 37, 38, 39, 40, 41, 42, 43, 44] rfl rfl rfl (z_em ⟨rfl, rfl, rfl, rfl, rfl, rfl, rfl, rfl, rfl, rfl, rfl, rfl, rfl, rfl, rfl, rfl, rfl, rfl, rfl, rfl, rfl, rfl, rfl, rfl, rfl, rfl, rfl, rfl, rfl, rfl, rfl, rfl, rfl, rfl, rfl, rfl, rfl, rfl, rfl, rfl, rfl, rfl, trivial⟩) rfl rfl rfl hl.1 (Nat.le_of_ble_eq_true rfl) dX8_lay_65 ⟨Nat.zero_le _, Nat.zero_le _⟩ rfl (fun H locs hP hD hS => ?_)
      obtain ⟨M_17, e_M_17, hf⟩ := zv_some hf
      rw [← e_M_17] at hP hD
      refine lv_aload_n hx hb dX8_lay_68 rfl (lv_at hl 0 rfl) ?_
      refine va_get (D := D) (ci := 8) (v := .ref ((zh hM) 13)) (C := RX8) (T := TX8) (N := 14) hx hb hts hi8 hown hK hP 0 rfl rfl 4 (Nat.le_of_ble_eq_true rfl) (hts _ (List.mem_cons_of_mem _ wd_347)) (fun _ h9 => h9) rfl dX8_lay_69 ?_
      refine lv_iconst (v := 0) hx hb dX8_lay_72 (by decide) ?_
      obtain ⟨M_18, e_M_18, hf⟩ := zv_some hf
      refine va_put (D := D) (ci := 6) (v := .int 0) (ty := .int) (C := RX6) (T := TX6) (N := 4) hx hb hts hi6 tyX6 tyX6_ok nmX6 hown hK hP hD hS 13 rfl rfl 3 (Nat.le_of_ble_eq_true rfl) (hts _ (List.mem_cons_of_mem _ wd_99)) (fun _ h9 => h9) rfl (by decide +kernel) rfl rfl (Nat.le_of_ble_eq_true rfl) dX8_lay_73 (fun H locs hP hD hS => ?_)
      have hP : va_P D vwCl (w8 cI cB (zh hM) (zs M_17 18 (fun _ => 0))) H := hP
      have hD : va_D A (w8 cI cB (zh hM) (zs M_17 18 (fun _ => 0))) := hD
      rw [← e_M_18] at hP hD
      refine lv_aload_n hx hb dX8_lay_76 rfl (lv_at hl 0 rfl) ?_
      refine va_get (D := D) (ci := 8) (v := .ref ((zh hM) 17)) (C := RX8) (T := TX8) (N := 14) hx hb hts hi8 hown hK hP 0 rfl rfl 5 (Nat.le_of_ble_eq_true rfl) (hts _ (List.mem_cons_of_mem _ wd_348)) (fun _ h9 => h9) rfl dX8_lay_77 ?_
      refine lv_iconst (v := 0) hx hb dX8_lay_80 (by decide) ?_
      obtain ⟨M_19, e_M_19, hf⟩ := zv_some hf
      refine va_put (D := D) (ci := 4) (v := .int 0) (ty := .int) (C := RX4) (T := TX4) (N := 3) hx hb hts hi4 tyX4 tyX4_ok nmX4 hown hK hP hD hS 17 rfl rfl 2 (Nat.le_of_ble_eq_true rfl) (hts _ (List.mem_cons_of_mem _ wd_119)) (fun _ h9 => h9) rfl (by decide +kernel) rfl rfl (Nat.le_of_ble_eq_true rfl) dX8_lay_81 (fun H locs hP hD hS => ?_)
      have hP : va_P D vwCl (w8 cI cB (zh hM) (zs M_18 21 (fun _ => 0))) H := hP
      have hD : va_D A (w8 cI cB (zh hM) (zs M_18 21 (fun _ => 0))) := hD
      rw [← e_M_19] at hP hD
      refine lv_aload_n hx hb dX8_lay_84 rfl (lv_at hl 0 rfl) ?_
      refine va_get (D := D) (ci := 8) (v := .ref ((zh hM) 20)) (C := RX8) (T := TX8) (N := 14) hx hb hts hi8 hown hK hP 0 rfl rfl 6 (Nat.le_of_ble_eq_true rfl) (hts _ (List.mem_cons_of_mem _ wd_349)) (fun _ h9 => h9) rfl dX8_lay_85 ?_
      refine lv_iconst (v := 0) hx hb dX8_lay_88 (by decide) ?_
      obtain ⟨M_20, e_M_20, hf⟩ := zv_some hf
      refine va_put (D := D) (ci := 3) (v := .int 0) (ty := .boolean) (C := RX3) (T := TX3) (N := 6) hx hb hts hi3 tyX3 tyX3_ok nmX3 hown hK hP hD hS 20 rfl rfl 1 (Nat.le_of_ble_eq_true rfl) (hts _ (List.mem_cons_of_mem _ wd_136)) (fun _ h9 => h9) rfl (by decide +kernel) rfl rfl (Nat.le_of_ble_eq_true rfl) dX8_lay_89 (fun H locs hP hD hS => ?_)
      have hP : va_P D vwCl (w8 cI cB (zh hM) (zs M_19 23 (fun _ => 0))) H := hP
      have hD : va_D A (w8 cI cB (zh hM) (zs M_19 23 (fun _ => 0))) := hD
      rw [← e_M_20] at hP hD
      refine lv_aload_n hx hb dX8_lay_92 rfl (lv_at hl 0 rfl) ?_
      refine va_get (D := D) (ci := 8) (v := .ref ((zh hM) 31)) (C := RX8) (T := TX8) (N := 14) hx hb hts hi8 hown hK hP 0 rfl rfl 12 (Nat.le_of_ble_eq_true rfl) (hts _ (List.mem_cons_of_mem _ wd_355)) (fun _ h9 => h9) rfl dX8_lay_93 ?_
      refine va_get (D := D) (ci := 5) (v := .int (M_20 42 0)) (C := RX5) (T := TX5) (N := 12) hx hb hts hi5 hown hK hP 31 rfl rfl 7 (Nat.le_of_ble_eq_true rfl) (hts _ (List.mem_cons_of_mem _ wd_196)) (fun _ h9 => h9) rfl dX8_lay_96 ?_
      cases hf
      exact zretI hx hb hr hlocks hK hP hD hS dX8_lay_99
    · replace hf := zit c_7 hf
      refine lv_bipush (v := (-2)) hx hb dX8_lay_26 (by decide) ?_
      cases hf
      exact zretI hx hb hr hlocks hK hP hD hS dX8_lay_28
def f_X8_part (M : zMm) (a1 : Int32) (a2 : Int32) : Option (Int32) := zb1 (f_X5_hasPart (fun j => M (35 + j)) a1) (fun (r1 : Int32) => if r1 = 0 then some ((-1) : Int32) else if a2 = 0 then zl 7 (M 36) a1 (fun v5 => some v5) else if a2 = 1 then zl 7 (M 37) a1 (fun v7 => some v7) else if a2 = 2 then zl 7 (M 38) a1 (fun v9 => some v9) else if a2 = 3 then zb1 (f_X1_placeOf (fun j => M (3 + j)) a1) (fun (r11 : Int32) => some r11) else if a2 = 4 then zb1 (f_X8_slipNow M a1) (fun (r14 : Int32) => some (r14 + 100)) else if a2 = 5 then zb1 (f_X8_slipNow M a1) (fun (r17 : Int32) => zb1 (f_X5_cutLength (fun j => M (35 + j)) a1 r17) (fun (r19 : Int32) => some r19)) else if a2 = 6 then zb1 (f_X8_lengthNow M a1) (fun (r22 : Int32) => some r22) else some ((-1) : Int32))
abbrev ww_X8_part : List Cond := Cond.code yX8_part cX8_part 3 (some .int) :: wG
theorem q_X8_part : yX8_part.cls = RX8 ∧ yX8_part.cls ≠ "java/lang/invoke/MethodHandle" ∧ yX8_part.cls ≠ "java/lang/invoke/VarHandle" ∧ (parseMethodDescriptor yX8_part.desc).map (fun d => d.parameters.length) = some 2 := by decide +kernel
set_option maxHeartbeats 4000000 in
set_option maxRecDepth 100000 in
theorem c_X8_part (l : Launch) (D : va_G) (cI cB : ClassId) (hM : Nat → Nat) (M : zMm) (a1 : Int32) (a2 : Int32) (r0 : Int32) (hf : f_X8_part M a1 a2 = some r0) : zMi l yX8_part ww_X8_part ({ frames := 4, cells := 0, slots := 0, locals := 88 } : Room) D cI cB [.ref (hM 0), .int a1, .int a2] [k8_0 cI cB hM M, k8_4 cI cB hM M, k8_5 cI cB hM M, k8_6 cI cB hM M, k8_31 cI cB hM M, k8_32 cI cB hM M, k8_33 cI cB hM M, k8_34 cI cB hM M, k8_35 cI cB hM M] r0 [k8_0 cI cB hM M, k8_4 cI cB hM M, k8_5 cI cB hM M, k8_6 cI cB hM M, k8_31 cI cB hM M, k8_32 cI cB hM M, k8_33 cI cB hM M, k8_34 cI cB hM M, k8_35 cI cB hM M] := by
  refine zofI (cc := cX8_part) (maxL := 3) (ret := (some .int)) (by decide +kernel) rfl (Nat.le_of_ble_eq_true rfl) ?_
  intro p e s m below meth c A ls hx hb hml hr hown hts hlocks hK hP hD hS hA hl
  have hl : lv_has ls 3 [(0, .ref (hM 0)), (1, .int a1), (2, .int a2)] := hl
  have hown : s.vm.findClass RX8 = some m.cls := hown
  have hG : ∀ w ∈ wG, w ∈ ww_X8_part := fun w h => List.mem_cons_of_mem _ h
  have hi5 : ∀ w ∈ wsX50, w ∈ ww_X8_part := fun w h => List.mem_cons_of_mem _ (z_inX5 w h)
  have hi8 : ∀ w ∈ wsX80, w ∈ ww_X8_part := fun w h => List.mem_cons_of_mem _ (z_inX8 w h)
  unfold f_X8_part at hf
  refine lv_aload_n hx hb dX8_part_0 rfl (lv_at hl 0 rfl) ?_
  refine va_get (D := D) (ci := 8) (v := .ref (hM 31)) (C := RX8) (T := TX8) (N := 14) hx hb hts hi8 hown hK hP 0 rfl rfl 12 (Nat.le_of_ble_eq_true rfl) (hts _ (List.mem_cons_of_mem _ wd_355)) (fun _ h9 => h9) rfl dX8_part_1 ?_
  refine lv_iload_n hx hb dX8_part_4 rfl (lv_at hl 1 rfl) ?_
  obtain ⟨r1, hq2, hf⟩ := zb1_some hf
  refine zcallVi (ws2 := [k8_0 cI cB hM M, k8_4 cI cB hM M, k8_5 cI cB hM M, k8_6 cI cB hM M, k8_31 cI cB hM M, k8_32 cI cB hM M, k8_33 cI cB hM M, k8_34 cI cB hM M, k8_35 cI cB hM M]) (rest := []) ⟨hx, hb, hml, hown, hts⟩ (c_X5_hasPart l D cI cB (fun j => hM (31 + j)) (fun j => M (35 + j)) a1 r1 hq2) (cwV 1 hts (z_gV hG wd_411 wd_328 wd_329 wd_10 wd_330) rfl rfl rfl q_X5_hasPart ⟨Nat.le_of_ble_eq_true rfl, Nat.le_of_ble_eq_true rfl⟩) hK hP hD hS hA 5 rfl rfl rfl [4] [0, 1, 2, 3, 5, 6, 7, 8] rfl rfl rfl rfl rfl rfl rfl hl.1 (Nat.le_of_ble_eq_true rfl) dX8_part_5 ⟨Nat.zero_le _, Nat.zero_le _⟩ rfl (fun H locs hP hD hS => ?_)
  refine lv_if_ne (tgt := 13) hx hb dX8_part_8 (by decide) (fun c_3 => ?_) (fun c_3 => ?_)
  · replace hf := zif c_3 hf
    refine lv_iload_n hx hb dX8_part_13 rfl (lv_at hl 2 rfl) ?_
    by_cases c_4 : a2 = 0
    · replace hf := zit c_4 hf
      refine zt c_4.symm ?_
      refine lv_tableIn (tgt := 56) hx hb dX8_part_14 (by decide) (by decide) rfl (by decide) ?_
      refine lv_aload_n hx hb dX8_part_56 rfl (lv_at hl 0 rfl) ?_
      refine va_get (D := D) (ci := 8) (v := .ref (hM 31)) (C := RX8) (T := TX8) (N := 14) hx hb hts hi8 hown hK hP 0 rfl rfl 12 (Nat.le_of_ble_eq_true rfl) (hts _ (List.mem_cons_of_mem _ wd_355)) (fun _ h9 => h9) rfl dX8_part_57 ?_
      refine va_get (D := D) (ci := 5) (v := .ref (hM 33)) (C := RX5) (T := TX5) (N := 12) hx hb hts hi5 hown hK hP 4 rfl rfl 1 (Nat.le_of_ble_eq_true rfl) (hts _ (List.mem_cons_of_mem _ wd_180)) (fun _ h9 => h9) rfl dX8_part_60 ?_
      refine lv_iload_n hx hb dX8_part_63 rfl (lv_at hl 1 rfl) ?_
      obtain ⟨i_v5, v5, e_v5, hf⟩ := zl_some hf
      refine va_iald (n := 7) (f := M 36) (cA := cI) hx hb hK hP 6 0 rfl rfl i_v5 dX8_part_64 ?_
      refine zt e_v5 ?_
      cases hf
      exact zretI hx hb hr hlocks hK hP hD hS dX8_part_65
    · replace hf := zif c_4 hf
      by_cases c_6 : a2 = 1
      · replace hf := zit c_6 hf
        refine zt c_6.symm ?_
        refine lv_tableIn (tgt := 66) hx hb dX8_part_14 (by decide) (by decide) rfl (by decide) ?_
        refine lv_aload_n hx hb dX8_part_66 rfl (lv_at hl 0 rfl) ?_
        refine va_get (D := D) (ci := 8) (v := .ref (hM 31)) (C := RX8) (T := TX8) (N := 14) hx hb hts hi8 hown hK hP 0 rfl rfl 12 (Nat.le_of_ble_eq_true rfl) (hts _ (List.mem_cons_of_mem _ wd_355)) (fun _ h9 => h9) rfl dX8_part_67 ?_
        refine va_get (D := D) (ci := 5) (v := .ref (hM 34)) (C := RX5) (T := TX5) (N := 12) hx hb hts hi5 hown hK hP 4 rfl rfl 2 (Nat.le_of_ble_eq_true rfl) (hts _ (List.mem_cons_of_mem _ wd_182)) (fun _ h9 => h9) rfl dX8_part_70 ?_
        refine lv_iload_n hx hb dX8_part_73 rfl (lv_at hl 1 rfl) ?_
        obtain ⟨i_v7, v7, e_v7, hf⟩ := zl_some hf
        refine va_iald (n := 7) (f := M 37) (cA := cI) hx hb hK hP 7 0 rfl rfl i_v7 dX8_part_74 ?_
        refine zt e_v7 ?_
        cases hf
        exact zretI hx hb hr hlocks hK hP hD hS dX8_part_75
      · replace hf := zif c_6 hf
        by_cases c_8 : a2 = 2
        · replace hf := zit c_8 hf
          refine zt c_8.symm ?_
          refine lv_tableIn (tgt := 76) hx hb dX8_part_14 (by decide) (by decide) rfl (by decide) ?_
          refine lv_aload_n hx hb dX8_part_76 rfl (lv_at hl 0 rfl) ?_
          refine va_get (D := D) (ci := 8) (v := .ref (hM 31)) (C := RX8) (T := TX8) (N := 14) hx hb hts hi8 hown hK hP 0 rfl rfl 12 (Nat.le_of_ble_eq_true rfl) (hts _ (List.mem_cons_of_mem _ wd_355)) (fun _ h9 => h9) rfl dX8_part_77 ?_
          refine va_get (D := D) (ci := 5) (v := .ref (hM 35)) (C := RX5) (T := TX5) (N := 12) hx hb hts hi5 hown hK hP 4 rfl rfl 3 (Nat.le_of_ble_eq_true rfl) (hts _ (List.mem_cons_of_mem _ wd_184)) (fun _ h9 => h9) rfl dX8_part_80 ?_
          refine lv_iload_n hx hb dX8_part_83 rfl (lv_at hl 1 rfl) ?_
          obtain ⟨i_v9, v9, e_v9, hf⟩ := zl_some hf
          refine va_iald (n := 7) (f := M 38) (cA := cI) hx hb hK hP 8 0 rfl rfl i_v9 dX8_part_84 ?_
          refine zt e_v9 ?_
          cases hf
          exact zretI hx hb hr hlocks hK hP hD hS dX8_part_85
        · replace hf := zif c_8 hf
          by_cases c_10 : a2 = 3
          · replace hf := zit c_10 hf
            refine zt c_10.symm ?_
            refine lv_tableIn (tgt := 86) hx hb dX8_part_14 (by decide) (by decide) rfl (by decide) ?_
            refine lv_aload_n hx hb dX8_part_86 rfl (lv_at hl 0 rfl) ?_
            refine va_get (D := D) (ci := 8) (v := .ref (hM 4)) (C := RX8) (T := TX8) (N := 14) hx hb hts hi8 hown hK hP 0 rfl rfl 1 (Nat.le_of_ble_eq_true rfl) (hts _ (List.mem_cons_of_mem _ wd_344)) (fun _ h9 => h9) rfl dX8_part_87 ?_
            refine lv_iload_n hx hb dX8_part_90 rfl (lv_at hl 1 rfl) ?_
            obtain ⟨r11, hq12, hf⟩ := zb1_some hf
            refine zcallVi (ws2 := [k8_0 cI cB hM M, k8_4 cI cB hM M, k8_5 cI cB hM M, k8_6 cI cB hM M, k8_31 cI cB hM M, k8_32 cI cB hM M, k8_33 cI cB hM M, k8_34 cI cB hM M, k8_35 cI cB hM M]) (rest := []) ⟨hx, hb, hml, hown, hts⟩ (c_X1_placeOf l D cI cB (fun j => hM (4 + j)) (fun j => M (3 + j)) a1 r11 hq12) (cwV 1 hts (z_gV hG wd_412 wd_413 wd_414 wd_3 wd_415) rfl rfl rfl q_X1_placeOf ⟨Nat.le_of_ble_eq_true rfl, Nat.le_of_ble_eq_true rfl⟩) hK hP hD hS hA 1 rfl rfl rfl [1, 2] [0, 3, 4, 5, 6, 7, 8] rfl rfl rfl rfl rfl rfl rfl hl.1 (Nat.le_of_ble_eq_true rfl) dX8_part_91 ⟨Nat.zero_le _, Nat.zero_le _⟩ rfl (fun H locs hP hD hS => ?_)
            cases hf
            exact zretI hx hb hr hlocks hK hP hD hS dX8_part_94
          · replace hf := zif c_10 hf
            by_cases c_13 : a2 = 4
            · replace hf := zit c_13 hf
              refine zt c_13.symm ?_
              refine lv_tableIn (tgt := 95) hx hb dX8_part_14 (by decide) (by decide) rfl (by decide) ?_
              refine lv_aload_n hx hb dX8_part_95 rfl (lv_at hl 0 rfl) ?_
              refine lv_iload_n hx hb dX8_part_96 rfl (lv_at hl 1 rfl) ?_
              obtain ⟨r14, hq15, hf⟩ := zb1_some hf
              refine zcallVi (ws2 := [k8_0 cI cB hM M, k8_4 cI cB hM M, k8_5 cI cB hM M, k8_6 cI cB hM M, k8_31 cI cB hM M, k8_32 cI cB hM M, k8_33 cI cB hM M, k8_34 cI cB hM M, k8_35 cI cB hM M]) (rest := []) ⟨hx, hb, hml, hown, hts⟩ (c_X8_slipNow l D cI cB hM M a1 r14 hq15) (cwV 1 hts (z_gV hG wd_416 wd_418 wd_s9 wd_1 wd_419) rfl rfl rfl q_X8_slipNow ⟨Nat.le_of_ble_eq_true rfl, Nat.le_of_ble_eq_true rfl⟩) hK hP hD hS hA 8 rfl rfl rfl [0, 1, 2, 4] [3, 5, 6, 7, 8] rfl rfl rfl rfl rfl rfl rfl hl.1 (Nat.le_of_ble_eq_true rfl) dX8_part_97 ⟨Nat.zero_le _, Nat.zero_le _⟩ rfl (fun H locs hP hD hS => ?_)
              refine lv_bipush (v := 100) hx hb dX8_part_100 (by decide) ?_
              refine lv_iadd hx hb dX8_part_102 ?_
              cases hf
              exact zretI hx hb hr hlocks hK hP hD hS dX8_part_103
            · replace hf := zif c_13 hf
              by_cases c_16 : a2 = 5
              · replace hf := zit c_16 hf
                refine zt c_16.symm ?_
                refine lv_tableIn (tgt := 104) hx hb dX8_part_14 (by decide) (by decide) rfl (by decide) ?_
                refine lv_aload_n hx hb dX8_part_104 rfl (lv_at hl 0 rfl) ?_
                refine va_get (D := D) (ci := 8) (v := .ref (hM 31)) (C := RX8) (T := TX8) (N := 14) hx hb hts hi8 hown hK hP 0 rfl rfl 12 (Nat.le_of_ble_eq_true rfl) (hts _ (List.mem_cons_of_mem _ wd_355)) (fun _ h9 => h9) rfl dX8_part_105 ?_
                refine lv_iload_n hx hb dX8_part_108 rfl (lv_at hl 1 rfl) ?_
                refine lv_aload_n hx hb dX8_part_109 rfl (lv_at hl 0 rfl) ?_
                refine lv_iload_n hx hb dX8_part_110 rfl (lv_at hl 1 rfl) ?_
                obtain ⟨r17, hq18, hf⟩ := zb1_some hf
                refine zcallVi (ws2 := [k8_0 cI cB hM M, k8_4 cI cB hM M, k8_5 cI cB hM M, k8_6 cI cB hM M, k8_31 cI cB hM M, k8_32 cI cB hM M, k8_33 cI cB hM M, k8_34 cI cB hM M, k8_35 cI cB hM M]) (rest := [.int a1, .ref (hM 31)]) ⟨hx, hb, hml, hown, hts⟩ (c_X8_slipNow l D cI cB hM M a1 r17 hq18) (cwV 1 hts (z_gV hG wd_416 wd_418 wd_s9 wd_1 wd_419) rfl rfl rfl q_X8_slipNow ⟨Nat.le_of_ble_eq_true rfl, Nat.le_of_ble_eq_true rfl⟩) hK hP hD hS hA 8 rfl rfl rfl [0, 1, 2, 4] [3, 5, 6, 7, 8] rfl rfl rfl rfl rfl rfl rfl hl.1 (Nat.le_of_ble_eq_true rfl) dX8_part_111 ⟨Nat.zero_le _, Nat.zero_le _⟩ rfl (fun H locs hP hD hS => ?_)
                obtain ⟨r19, hq20, hf⟩ := zb1_some hf
                refine zcallVi (ws2 := [k8_0 cI cB hM M, k8_4 cI cB hM M, k8_5 cI cB hM M, k8_6 cI cB hM M, k8_31 cI cB hM M, k8_32 cI cB hM M, k8_33 cI cB hM M, k8_34 cI cB hM M, k8_35 cI cB hM M]) (rest := []) ⟨hx, hb, hml, hown, hts⟩ (c_X5_cutLength l D cI cB (fun j => hM (31 + j)) (fun j => M (35 + j)) a1 r17 r19 hq20) (cwV 2 hts (z_gV hG wd_431 wd_432 wd_433 wd_10 wd_434) rfl rfl rfl q_X5_cutLength ⟨Nat.le_of_ble_eq_true rfl, Nat.le_of_ble_eq_true rfl⟩) hK hP hD hS hA 5 rfl rfl rfl [4, 5, 6, 7] [0, 1, 2, 3, 8] rfl rfl rfl rfl rfl rfl rfl hl.1 (Nat.le_of_ble_eq_true rfl) dX8_part_114 ⟨Nat.zero_le _, Nat.zero_le _⟩ rfl (fun H locs hP hD hS => ?_)
                cases hf
                exact zretI hx hb hr hlocks hK hP hD hS dX8_part_117
              · replace hf := zif c_16 hf
                by_cases c_21 : a2 = 6
                · replace hf := zit c_21 hf
                  refine zt c_21.symm ?_
                  refine lv_tableIn (tgt := 118) hx hb dX8_part_14 (by decide) (by decide) rfl (by decide) ?_
                  refine lv_aload_n hx hb dX8_part_118 rfl (lv_at hl 0 rfl) ?_
                  refine lv_iload_n hx hb dX8_part_119 rfl (lv_at hl 1 rfl) ?_
                  obtain ⟨r22, hq23, hf⟩ := zb1_some hf
                  refine zcallVi (ws2 := [k8_0 cI cB hM M, k8_4 cI cB hM M, k8_5 cI cB hM M, k8_6 cI cB hM M, k8_31 cI cB hM M, k8_32 cI cB hM M, k8_33 cI cB hM M, k8_34 cI cB hM M, k8_35 cI cB hM M]) (rest := []) ⟨hx, hb, hml, hown, hts⟩ (c_X8_lengthNow l D cI cB hM M a1 r22 hq23) (cwV 1 hts (z_gV hG wd_438 wd_440 wd_s10 wd_1 wd_441) rfl rfl rfl q_X8_lengthNow ⟨Nat.le_of_ble_eq_true rfl, Nat.le_of_ble_eq_true rfl⟩) hK hP hD hS hA 8 rfl rfl rfl [0, 1, 2, 3, 4, 5, 6, 7] [8] rfl rfl rfl rfl rfl rfl rfl hl.1 (Nat.le_of_ble_eq_true rfl) dX8_part_120 ⟨Nat.zero_le _, Nat.zero_le _⟩ rfl (fun H locs hP hD hS => ?_)
                  cases hf
                  exact zretI hx hb hr hlocks hK hP hD hS dX8_part_123
                · replace hf := zif c_21 hf
                  refine lv_tableOut (tgt := 124) hx hb dX8_part_14 (zsw_out (lo := 0) (hi := 6) (by decide) (fun k h1 h2 => by rcases (show k = 0 ∨ k = 1 ∨ k = 2 ∨ k = 3 ∨ k = 4 ∨ k = 5 ∨ k = 6 by omega) with rfl | rfl | rfl | rfl | rfl | rfl | rfl <;> assumption)) (by decide) ?_
                  refine lv_iconst (v := (-1)) hx hb dX8_part_124 (by decide) ?_
                  cases hf
                  exact zretI hx hb hr hlocks hK hP hD hS dX8_part_125
  · replace hf := zit c_3 hf
    refine lv_iconst (v := (-1)) hx hb dX8_part_11 (by decide) ?_
    cases hf
    exact zretI hx hb hr hlocks hK hP hD hS dX8_part_12
def f_X8_gap (M : zMm) (a1 : Int32) : Option (Int32 × zMm) := if a1 = (-1) then zb1 (f_X8_measureNow M) (fun (M_2 : zMm) => if a1 = (-1) then zb1 (f_X5_sumOfGaps (fun j => M_2 (35 + j)) (fun j => M_2 (31 + j))) (fun (r7 : Int32) => some (r7, M_2)) else zb1 (f_X5_gapOf (fun j => M_2 (35 + j)) (fun j => M_2 (31 + j)) a1) (fun (r5 : Int32) => some (r5, M_2))) else zb1 (f_X5_hasSeam (fun j => M (35 + j)) a1) (fun (r9 : Int32) => if r9 = 0 then some (((-1) : Int32), M) else zb1 (f_X8_measureNow M) (fun (M_12 : zMm) => if a1 = (-1) then zb1 (f_X5_sumOfGaps (fun j => M_12 (35 + j)) (fun j => M_12 (31 + j))) (fun (r17 : Int32) => some (r17, M_12)) else zb1 (f_X5_gapOf (fun j => M_12 (35 + j)) (fun j => M_12 (31 + j)) a1) (fun (r15 : Int32) => some (r15, M_12))))
abbrev ww_X8_gap : List Cond := Cond.code yX8_gap cX8_gap 2 (some .int) :: wG
theorem q_X8_gap : yX8_gap.cls = RX8 ∧ yX8_gap.cls ≠ "java/lang/invoke/MethodHandle" ∧ yX8_gap.cls ≠ "java/lang/invoke/VarHandle" ∧ (parseMethodDescriptor yX8_gap.desc).map (fun d => d.parameters.length) = some 1 := by decide +kernel
set_option maxHeartbeats 4000000 in
set_option maxRecDepth 100000 in
theorem c_X8_gap (l : Launch) (D : va_G) (cI cB : ClassId) (hM : Nat → Nat) (M : zMm) (a1 : Int32) (r0 : Int32) (M0 : zMm) (hf : f_X8_gap M a1 = some (r0, M0)) : zMi l yX8_gap ww_X8_gap ({ frames := 5, cells := 0, slots := 0, locals := 109 } : Room) D cI cB [.ref (hM 0), .int a1] (w8 cI cB hM M) r0 (w8 cI cB hM M0) := by
  refine zofI (cc := cX8_gap) (maxL := 2) (ret := (some .int)) (by decide +kernel) rfl (Nat.le_of_ble_eq_true rfl) ?_
  intro p e s m below meth c A ls hx hb hml hr hown hts hlocks hK hP hD hS hA hl
  have hl : lv_has ls 2 [(0, .ref (hM 0)), (1, .int a1)] := hl
  have hown : s.vm.findClass RX8 = some m.cls := hown
  have hG : ∀ w ∈ wG, w ∈ ww_X8_gap := fun w h => List.mem_cons_of_mem _ h
  have hi8 : ∀ w ∈ wsX80, w ∈ ww_X8_gap := fun w h => List.mem_cons_of_mem _ (z_inX8 w h)
  unfold f_X8_gap at hf
  refine lv_iload_n hx hb dX8_gap_0 rfl (lv_at hl 1 rfl) ?_
  refine lv_iconst (v := (-1)) hx hb dX8_gap_1 (by decide) ?_
  refine lv_icmp_eq (tgt := 18) hx hb dX8_gap_2 (by decide) (fun c_1 => ?_) (fun c_1 => ?_)
  · replace hf := zit c_1 hf
    refine lv_aload_n hx hb dX8_gap_18 rfl (lv_at hl 0 rfl) ?_
    obtain ⟨M_2, hq3, hf⟩ := zb1_some hf
    refine zcallVv (ws2 := (w8 cI cB hM M_2)) (rest := []) ⟨hx, hb, hml, hown, hts⟩ (c_X8_measureNow l D cI cB hM M M_2 hq3) (cwV 0 hts (z_gV hG wd_450 wd_452 wd_s11 wd_1 wd_453) rfl rfl rfl q_X8_measureNow ⟨Nat.le_of_ble_eq_true rfl, Nat.le_of_ble_eq_true rfl⟩) hK hP hD hS hA 8 rfl rfl rfl [0, 1, 2, 3, 4, 5, 6, 7, 8, 9, 10, 11, 12, 13, 14, 15, 16, 17, 18, 19, 20, 21, 22, 23, 24, 25, 26, 27, 28, 29, 30, 31, 32, 33, 34, 35, 36, 37, 38, 39, 40, 41, 42, 43, 44] [] rfl rfl rfl rfl rfl rfl rfl hl.1 (Nat.le_of_ble_eq_true rfl) dX8_gap_19 ⟨Nat.zero_le _, Nat.zero_le _⟩ rfl (fun H locs hP hD hS => ?_)
    refine lv_iload_n hx hb dX8_gap_22 rfl (lv_at hl 1 rfl) ?_
    refine lv_iconst (v := (-1)) hx hb dX8_gap_23 (by decide) ?_
    refine lv_icmp_ne (tgt := 41) hx hb dX8_gap_24 (by decide) (fun c_4 => ?_) (fun c_4 => ?_)
    · replace hf := zif c_4 hf
      refine lv_aload_n hx hb dX8_gap_41 rfl (lv_at hl 0 rfl) ?_
      refine va_get (D := D) (ci := 8) (v := .ref (hM 31)) (C := RX8) (T := TX8) (N := 14) hx hb hts hi8 hown hK hP 0 rfl rfl 12 (Nat.le_of_ble_eq_true rfl) (hts _ (List.mem_cons_of_mem _ wd_355)) (fun _ h9 => h9) rfl dX8_gap_42 ?_
      refine lv_iload_n hx hb dX8_gap_45 rfl (lv_at hl 1 rfl) ?_
      refine lv_aload_n hx hb dX8_gap_46 rfl (lv_at hl 0 rfl) ?_
      refine va_get (D := D) (ci := 8) (v := .ref (hM 27)) (C := RX8) (T := TX8) (N := 14) hx hb hts hi8 hown hK hP 0 rfl rfl 8 (Nat.le_of_ble_eq_true rfl) (hts _ (List.mem_cons_of_mem _ wd_351)) (fun _ h9 => h9) rfl dX8_gap_47 ?_
      obtain ⟨r5, hq6, hf⟩ := zb1_some hf
      refine zcallVi (ws2 := (w8 cI cB hM M_2)) (rest := []) ⟨hx, hb, hml, hown, hts⟩ (c_X5_gapOf l D cI cB (fun j => hM (31 + j)) (fun j => hM (27 + j)) (fun j => M_2 (35 + j)) (fun j => M_2 (31 + j)) a1 r5 hq6) (cwV 2 hts (z_gV hG wd_465 wd_459 wd_460 wd_10 wd_461) rfl rfl rfl q_X5_gapOf ⟨Nat.le_of_ble_eq_true rfl, Nat.le_of_ble_eq_true rfl⟩) hK hP hD hS hA 5 rfl rfl rfl [31, 36, 37, 27] [0, 1, 2, 3, 4, 5, 6, 7, 8, 9, 10, 11, 12, 13, 14, 15, 16, 17, 18, 19, 20, 21, 22, 23, 24, 25, 26, 28, 29, 30, 32, 33, 34, 35, 38, 39, 40, 41, 42, 43, 44] rfl rfl rfl rfl rfl rfl rfl hl.1 (Nat.le_of_ble_eq_true rfl) dX8_gap_50 ⟨Nat.zero_le _, Nat.zero_le _⟩ rfl (fun H locs hP hD hS => ?_)
      cases hf
      exact zretI hx hb hr hlocks hK hP hD hS dX8_gap_53
    · replace hf := zit c_4 hf
      refine lv_aload_n hx hb dX8_gap_27 rfl (lv_at hl 0 rfl) ?_
      refine va_get (D := D) (ci := 8) (v := .ref (hM 31)) (C := RX8) (T := TX8) (N := 14) hx hb hts hi8 hown hK hP 0 rfl rfl 12 (Nat.le_of_ble_eq_true rfl) (hts _ (List.mem_cons_of_mem _ wd_355)) (fun _ h9 => h9) rfl dX8_gap_28 ?_
      refine lv_aload_n hx hb dX8_gap_31 rfl (lv_at hl 0 rfl) ?_
      refine va_get (D := D) (ci := 8) (v := .ref (hM 27)) (C := RX8) (T := TX8) (N := 14) hx hb hts hi8 hown hK hP 0 rfl rfl 8 (Nat.le_of_ble_eq_true rfl) (hts _ (List.mem_cons_of_mem _ wd_351)) (fun _ h9 => h9) rfl dX8_gap_32 ?_
      obtain ⟨r7, hq8, hf⟩ := zb1_some hf
      refine zcallVi (ws2 := (w8 cI cB hM M_2)) (rest := []) ⟨hx, hb, hml, hown, hts⟩ (c_X5_sumOfGaps l D cI cB (fun j => hM (31 + j)) (fun j => hM (27 + j)) (fun j => M_2 (35 + j)) (fun j => M_2 (31 + j)) r7 hq8) (cwV 1 hts (z_gV hG wd_454 wd_455 wd_456 wd_10 wd_457) rfl rfl rfl q_X5_sumOfGaps ⟨Nat.le_of_ble_eq_true rfl, Nat.le_of_ble_eq_true rfl⟩) hK hP hD hS hA 5 rfl rfl rfl [31, 36, 37, 27] [0, 1, 2, 3, 4, 5, 6, 7, 8, 9, 10, 11, 12, 13, 14, 15, 16, 17, 18, 19, 20, 21, 22, 23, 24, 25, 26, 28, 29, 30, 32, 33, 34, 35, 38, 39, 40, 41, 42, 43, 44] rfl rfl rfl rfl rfl rfl rfl hl.1 (Nat.le_of_ble_eq_true rfl) dX8_gap_35 ⟨Nat.zero_le _, Nat.zero_le _⟩ rfl (fun H locs hP hD hS => ?_)
      refine lv_goto (tgt := 53) hx hb dX8_gap_38 (by decide) ?_
      cases hf
      exact zretI hx hb hr hlocks hK hP hD hS dX8_gap_53
  · replace hf := zif c_1 hf
    refine lv_aload_n hx hb dX8_gap_5 rfl (lv_at hl 0 rfl) ?_
    refine va_get (D := D) (ci := 8) (v := .ref (hM 31)) (C := RX8) (T := TX8) (N := 14) hx hb hts hi8 hown hK hP 0 rfl rfl 12 (Nat.le_of_ble_eq_true rfl) (hts _ (List.mem_cons_of_mem _ wd_355)) (fun _ h9 => h9) rfl dX8_gap_6 ?_
    refine lv_iload_n hx hb dX8_gap_9 rfl (lv_at hl 1 rfl) ?_
    obtain ⟨r9, hq10, hf⟩ := zb1_some hf
    refine zcallVi (ws2 := (w8 cI cB hM M)) (rest := []) ⟨hx, hb, hml, hown, hts⟩ (c_X5_hasSeam l D cI cB (fun j => hM (31 + j)) (fun j => M (35 + j)) a1 r9 hq10) (cwV 1 hts (z_gV hG wd_446 wd_447 wd_448 wd_10 wd_449) rfl rfl rfl q_X5_hasSeam ⟨Nat.le_of_ble_eq_true rfl, Nat.le_of_ble_eq_true rfl⟩) hK hP hD hS hA 5 rfl rfl rfl [31] [0, 1, 2, 3, 4, 5, 6, 7, 8, 9, 10, 11, 12, 13, 14, 15, 16, 17, 18, 19, 20, 21, 22, 23, 24, 25, 26, 27, 28, 29, 30, 32, 33, 34, 35, 36, 37, 38, 39, 40, 41, 42, 43, 44] rfl rfl rfl rfl rfl rfl rfl hl.1 (Nat.le_of_ble_eq_true rfl) dX8_gap_10 ⟨Nat.zero_le _, Nat.zero_le _⟩ rfl (fun H locs hP hD hS => ?_)
    refine lv_if_ne (tgt := 18) hx hb dX8_gap_13 (by decide) (fun c_11 => ?_) (fun c_11 => ?_)
    · replace hf := zif c_11 hf
      refine lv_aload_n hx hb dX8_gap_18 rfl (lv_at hl 0 rfl) ?_
      obtain ⟨M_12, hq13, hf⟩ := zb1_some hf
      refine zcallVv (ws2 := (w8 cI cB hM M_12)) (rest := []) ⟨hx, hb, hml, hown, hts⟩ (c_X8_measureNow l D cI cB hM M M_12 hq13) (cwV 0 hts (z_gV hG wd_450 wd_452 wd_s11 wd_1 wd_453) rfl rfl rfl q_X8_measureNow ⟨Nat.le_of_ble_eq_true rfl, Nat.le_of_ble_eq_true rfl⟩) hK hP hD hS hA 8 rfl rfl rfl [0, 1, 2, 3, 4, 5, 6, 7, 8, 9, 10, 11, 12, 13, 14, 15, 16, 17, 18, 19, 20, 21, 22, 23, 24, 25, 26, 27, 28, 29, 30, 31, 32, 33, 34, 35, 36, 37, 38, 39, 40, 41, 42, 43, 44] [] rfl rfl rfl rfl rfl rfl rfl hl.1 (Nat.le_of_ble_eq_true rfl) dX8_gap_19 ⟨Nat.zero_le _, Nat.zero_le _⟩ rfl (fun H locs hP hD hS => ?_)
      refine lv_iload_n hx hb dX8_gap_22 rfl (lv_at hl 1 rfl) ?_
      refine lv_iconst (v := (-1)) hx hb dX8_gap_23 (by decide) ?_
      refine lv_icmp_ne (tgt := 41) hx hb dX8_gap_24 (by decide) (fun c_14 => ?_) (fun c_14 => ?_)
      · replace hf := zif c_14 hf
        refine lv_aload_n hx hb dX8_gap_41 rfl (lv_at hl 0 rfl) ?_
        refine va_get (D := D) (ci := 8) (v := .ref (hM 31)) (C := RX8) (T := TX8) (N := 14) hx hb hts hi8 hown hK hP 0 rfl rfl 12 (Nat.le_of_ble_eq_true rfl) (hts _ (List.mem_cons_of_mem _ wd_355)) (fun _ h9 => h9) rfl dX8_gap_42 ?_
        refine lv_iload_n hx hb dX8_gap_45 rfl (lv_at hl 1 rfl) ?_
        refine lv_aload_n hx hb dX8_gap_46 rfl (lv_at hl 0 rfl) ?_
        refine va_get (D := D) (ci := 8) (v := .ref (hM 27)) (C := RX8) (T := TX8) (N := 14) hx hb hts hi8 hown hK hP 0 rfl rfl 8 (Nat.le_of_ble_eq_true rfl) (hts _ (List.mem_cons_of_mem _ wd_351)) (fun _ h9 => h9) rfl dX8_gap_47 ?_
        obtain ⟨r15, hq16, hf⟩ := zb1_some hf
        refine zcallVi (ws2 := (w8 cI cB hM M_12)) (rest := []) ⟨hx, hb, hml, hown, hts⟩ (c_X5_gapOf l D cI cB (fun j => hM (31 + j)) (fun j => hM (27 + j)) (fun j => M_12 (35 + j)) (fun j => M_12 (31 + j)) a1 r15 hq16) (cwV 2 hts (z_gV hG wd_465 wd_459 wd_460 wd_10 wd_461) rfl rfl rfl q_X5_gapOf ⟨Nat.le_of_ble_eq_true rfl, Nat.le_of_ble_eq_true rfl⟩) hK hP hD hS hA 5 rfl rfl rfl [31, 36, 37, 27] [0, 1, 2, 3, 4, 5, 6, 7, 8, 9, 10, 11, 12, 13, 14, 15, 16, 17, 18, 19, 20, 21, 22, 23, 24, 25, 26, 28, 29, 30, 32, 33, 34, 35, 38, 39, 40, 41, 42, 43, 44] rfl rfl rfl rfl rfl rfl rfl hl.1 (Nat.le_of_ble_eq_true rfl) dX8_gap_50 ⟨Nat.zero_le _, Nat.zero_le _⟩ rfl (fun H locs hP hD hS => ?_)
        cases hf
        exact zretI hx hb hr hlocks hK hP hD hS dX8_gap_53
      · replace hf := zit c_14 hf
        refine lv_aload_n hx hb dX8_gap_27 rfl (lv_at hl 0 rfl) ?_
        refine va_get (D := D) (ci := 8) (v := .ref (hM 31)) (C := RX8) (T := TX8) (N := 14) hx hb hts hi8 hown hK hP 0 rfl rfl 12 (Nat.le_of_ble_eq_true rfl) (hts _ (List.mem_cons_of_mem _ wd_355)) (fun _ h9 => h9) rfl dX8_gap_28 ?_
        refine lv_aload_n hx hb dX8_gap_31 rfl (lv_at hl 0 rfl) ?_
        refine va_get (D := D) (ci := 8) (v := .ref (hM 27)) (C := RX8) (T := TX8) (N := 14) hx hb hts hi8 hown hK hP 0 rfl rfl 8 (Nat.le_of_ble_eq_true rfl) (hts _ (List.mem_cons_of_mem _ wd_351)) (fun _ h9 => h9) rfl dX8_gap_32 ?_
        obtain ⟨r17, hq18, hf⟩ := zb1_some hf
        refine zcallVi (ws2 := (w8 cI cB hM M_12)) (rest := []) ⟨hx, hb, hml, hown, hts⟩ (c_X5_sumOfGaps l D cI cB (fun j => hM (31 + j)) (fun j => hM (27 + j)) (fun j => M_12 (35 + j)) (fun j => M_12 (31 + j)) r17 hq18) (cwV 1 hts (z_gV hG wd_454 wd_455 wd_456 wd_10 wd_457) rfl rfl rfl q_X5_sumOfGaps ⟨Nat.le_of_ble_eq_true rfl, Nat.le_of_ble_eq_true rfl⟩) hK hP hD hS hA 5 rfl rfl rfl [31, 36, 37, 27] [0, 1, 2, 3, 4, 5, 6, 7, 8, 9, 10, 11, 12, 13, 14, 15, 16, 17, 18, 19, 20, 21, 22, 23, 24, 25, 26, 28, 29, 30, 32, 33, 34, 35, 38, 39, 40, 41, 42, 43, 44] rfl rfl rfl rfl rfl rfl rfl hl.1 (Nat.le_of_ble_eq_true rfl) dX8_gap_35 ⟨Nat.zero_le _, Nat.zero_le _⟩ rfl (fun H locs hP hD hS => ?_)
        refine lv_goto (tgt := 53) hx hb dX8_gap_38 (by decide) ?_
        cases hf
        exact zretI hx hb hr hlocks hK hP hD hS dX8_gap_53
    · replace hf := zit c_11 hf
      refine lv_iconst (v := (-1)) hx hb dX8_gap_16 (by decide) ?_
      cases hf
      exact zretI hx hb hr hlocks hK hP hD hS dX8_gap_17
def f_X8_closes (M : zMm) : Option (Int32 × zMm) := zb1 (f_X8_measureNow M) (fun (M_1 : zMm) => zb1 (f_X5_isClosedBy (fun j => M_1 (35 + j)) (fun j => M_1 (31 + j))) (fun (r3 : Int32) => if r3 = 0 then some ((0 : Int32), M_1) else some ((1 : Int32), M_1)))
abbrev ww_X8_closes : List Cond := Cond.code yX8_closes cX8_closes 1 (some .int) :: wG
theorem q_X8_closes : yX8_closes.cls = RX8 ∧ yX8_closes.cls ≠ "java/lang/invoke/MethodHandle" ∧ yX8_closes.cls ≠ "java/lang/invoke/VarHandle" ∧ (parseMethodDescriptor yX8_closes.desc).map (fun d => d.parameters.length) = some 0 := by decide +kernel
set_option maxHeartbeats 4000000 in
set_option maxRecDepth 100000 in
theorem c_X8_closes (l : Launch) (D : va_G) (cI cB : ClassId) (hM : Nat → Nat) (M : zMm) (r0 : Int32) (M0 : zMm) (hf : f_X8_closes M = some (r0, M0)) : zMi l yX8_closes ww_X8_closes ({ frames := 5, cells := 0, slots := 0, locals := 109 } : Room) D cI cB [.ref (hM 0)] (w8 cI cB hM M) r0 (w8 cI cB hM M0) := by
  refine zofI (cc := cX8_closes) (maxL := 1) (ret := (some .int)) (by decide +kernel) rfl (Nat.le_of_ble_eq_true rfl) ?_
  intro p e s m below meth c A ls hx hb hml hr hown hts hlocks hK hP hD hS hA hl
  have hl : lv_has ls 1 [(0, .ref (hM 0))] := hl
  have hown : s.vm.findClass RX8 = some m.cls := hown
  have hG : ∀ w ∈ wG, w ∈ ww_X8_closes := fun w h => List.mem_cons_of_mem _ h
  have hi8 : ∀ w ∈ wsX80, w ∈ ww_X8_closes := fun w h => List.mem_cons_of_mem _ (z_inX8 w h)
  unfold f_X8_closes at hf
  refine lv_aload_n hx hb dX8_closes_0 rfl (lv_at hl 0 rfl) ?_
  obtain ⟨M_1, hq2, hf⟩ := zb1_some hf
  refine zcallVv (ws2 := (w8 cI cB hM M_1)) (rest := []) ⟨hx, hb, hml, hown, hts⟩ (c_X8_measureNow l D cI cB hM M M_1 hq2) (cwV 0 hts (z_gV hG wd_450 wd_452 wd_s11 wd_1 wd_453) rfl rfl rfl q_X8_measureNow ⟨Nat.le_of_ble_eq_true rfl, Nat.le_of_ble_eq_true rfl⟩) hK hP hD hS hA 8 rfl rfl rfl [0, 1, 2, 3, 4, 5, 6, 7, 8, 9, 10, 11, 12, 13, 14, 15, 16, 17, 18, 19, 20, 21, 22, 23, 24, 25, 26, 27, 28, 29, 30, 31, 32, 33, 34, 35, 36, 37, 38, 39, 40, 41, 42, 43, 44] [] rfl rfl rfl rfl rfl rfl rfl hl.1 (Nat.le_of_ble_eq_true rfl) dX8_closes_1 ⟨Nat.zero_le _, Nat.zero_le _⟩ rfl (fun H locs hP hD hS => ?_)
  refine lv_aload_n hx hb dX8_closes_4 rfl (lv_at hl 0 rfl) ?_
  refine va_get (D := D) (ci := 8) (v := .ref (hM 31)) (C := RX8) (T := TX8) (N := 14) hx hb hts hi8 hown hK hP 0 rfl rfl 12 (Nat.le_of_ble_eq_true rfl) (hts _ (List.mem_cons_of_mem _ wd_355)) (fun _ h9 => h9) rfl dX8_closes_5 ?_
  refine lv_aload_n hx hb dX8_closes_8 rfl (lv_at hl 0 rfl) ?_
  refine va_get (D := D) (ci := 8) (v := .ref (hM 27)) (C := RX8) (T := TX8) (N := 14) hx hb hts hi8 hown hK hP 0 rfl rfl 8 (Nat.le_of_ble_eq_true rfl) (hts _ (List.mem_cons_of_mem _ wd_351)) (fun _ h9 => h9) rfl dX8_closes_9 ?_
  obtain ⟨r3, hq4, hf⟩ := zb1_some hf
  refine zcallVi (ws2 := (w8 cI cB hM M_1)) (rest := []) ⟨hx, hb, hml, hown, hts⟩ (c_X5_isClosedBy l D cI cB (fun j => hM (31 + j)) (fun j => hM (27 + j)) (fun j => M_1 (35 + j)) (fun j => M_1 (31 + j)) r3 hq4) (cwV 1 hts (z_gV hG wd_470 wd_471 wd_472 wd_10 wd_473) rfl rfl rfl q_X5_isClosedBy ⟨Nat.le_of_ble_eq_true rfl, Nat.le_of_ble_eq_true rfl⟩) hK hP hD hS hA 5 rfl rfl rfl [31, 36, 37, 27] [0, 1, 2, 3, 4, 5, 6, 7, 8, 9, 10, 11, 12, 13, 14, 15, 16, 17, 18, 19, 20, 21, 22, 23, 24, 25, 26, 28, 29, 30, 32, 33, 34, 35, 38, 39, 40, 41, 42, 43, 44] rfl rfl rfl rfl rfl rfl rfl hl.1 (Nat.le_of_ble_eq_true rfl) dX8_closes_12 ⟨Nat.zero_le _, Nat.zero_le _⟩ rfl (fun H locs hP hD hS => ?_)
  refine lv_if_eq (tgt := 22) hx hb dX8_closes_15 (by decide) (fun c_5 => ?_) (fun c_5 => ?_)
  · replace hf := zit c_5 hf
    refine lv_iconst (v := 0) hx hb dX8_closes_22 (by decide) ?_
    cases hf
    exact zretI hx hb hr hlocks hK hP hD hS dX8_closes_23
  · replace hf := zif c_5 hf
    refine lv_iconst (v := 1) hx hb dX8_closes_18 (by decide) ?_
    refine lv_goto (tgt := 23) hx hb dX8_closes_19 (by decide) ?_
    cases hf
    exact zretI hx hb hr hlocks hK hP hD hS dX8_closes_23
def f_X8_change (M : zMm) (a1 : Int32) (a2 : Int32) : Option (Int32 × zMm) := zb1 (f_X5_hasPart (fun j => M (35 + j)) a1) (fun (r1 : Int32) => if r1 = 0 then some (((-1) : Int32), M) else zb1 (f_X5_hasPart (fun j => M (35 + j)) a2) (fun (r4 : Int32) => if r4 = 0 then some (((-1) : Int32), M) else if a1 = a2 then some (((-1) : Int32), M) else zb1 (f_X2a_push (fun j => M (5 + j)) (fun j => M (3 + j))) (fun (M_8 : zMm) => zv (zp M 5 5 M_8) (fun (M_10 : zMm) => zb1 (f_X1_swapPlaces (fun j => M_10 (3 + j)) a1 a2) (fun (M_11 : zMm) => zv (zp M_10 3 2 M_11) (fun (M_13 : zMm) => zb1 (f_X8_measureNow M_13) (fun (M_14 : zMm) => zb1 (f_X5_sumOfGaps (fun j => M_14 (35 + j)) (fun j => M_14 (31 + j))) (fun (r16 : Int32) => some (r16, M_14)))))))))
abbrev ww_X8_change : List Cond := Cond.code yX8_change cX8_change 3 (some .int) :: wG
theorem q_X8_change : yX8_change.cls = RX8 ∧ yX8_change.cls ≠ "java/lang/invoke/MethodHandle" ∧ yX8_change.cls ≠ "java/lang/invoke/VarHandle" ∧ (parseMethodDescriptor yX8_change.desc).map (fun d => d.parameters.length) = some 2 := by decide +kernel
set_option maxHeartbeats 4000000 in
set_option maxRecDepth 100000 in
theorem c_X8_change (l : Launch) (D : va_G) (cI cB : ClassId) (hM : Nat → Nat) (M : zMm) (a1 : Int32) (a2 : Int32) (r0 : Int32) (M0 : zMm) (hf : f_X8_change M a1 a2 = some (r0, M0)) : zMi l yX8_change ww_X8_change ({ frames := 5, cells := 0, slots := 0, locals := 109 } : Room) D cI cB [.ref (hM 0), .int a1, .int a2] (w8 cI cB hM M) r0 (w8 cI cB hM M0) := by
  refine zofI (cc := cX8_change) (maxL := 3) (ret := (some .int)) (by decide +kernel) rfl (Nat.le_of_ble_eq_true rfl) ?_
  intro p e s m below meth c A ls hx hb hml hr hown hts hlocks hK hP hD hS hA hl
  have hl : lv_has ls 3 [(0, .ref (hM 0)), (1, .int a1), (2, .int a2)] := hl
  have hown : s.vm.findClass RX8 = some m.cls := hown
  have hG : ∀ w ∈ wG, w ∈ ww_X8_change := fun w h => List.mem_cons_of_mem _ h
  have hi8 : ∀ w ∈ wsX80, w ∈ ww_X8_change := fun w h => List.mem_cons_of_mem _ (z_inX8 w h)
  unfold f_X8_change at hf
  refine lv_aload_n hx hb dX8_change_0 rfl (lv_at hl 0 rfl) ?_
  refine va_get (D := D) (ci := 8) (v := .ref (hM 31)) (C := RX8) (T := TX8) (N := 14) hx hb hts hi8 hown hK hP 0 rfl rfl 12 (Nat.le_of_ble_eq_true rfl) (hts _ (List.mem_cons_of_mem _ wd_355)) (fun _ h9 => h9) rfl dX8_change_1 ?_
  refine lv_iload_n hx hb dX8_change_4 rfl (lv_at hl 1 rfl) ?_
  obtain ⟨r1, hq2, hf⟩ := zb1_some hf
  refine zcallVi (ws2 := (w8 cI cB hM M)) (rest := []) ⟨hx, hb, hml, hown, hts⟩ (c_X5_hasPart l D cI cB (fun j => hM (31 + j)) (fun j => M (35 + j)) a1 r1 hq2) (cwV 1 hts (z_gV hG wd_411 wd_328 wd_329 wd_10 wd_330) rfl rfl rfl q_X5_hasPart ⟨Nat.le_of_ble_eq_true rfl, Nat.le_of_ble_eq_true rfl⟩) hK hP hD hS hA 5 rfl rfl rfl [31] [0, 1, 2, 3, 4, 5, 6, 7, 8, 9, 10, 11, 12, 13, 14, 15, 16, 17, 18, 19, 20, 21, 22, 23, 24, 25, 26, 27, 28, 29, 30, 32, 33, 34, 35, 36, 37, 38, 39, 40, 41, 42, 43, 44] rfl rfl rfl rfl rfl rfl rfl hl.1 (Nat.le_of_ble_eq_true rfl) dX8_change_5 ⟨Nat.zero_le _, Nat.zero_le _⟩ rfl (fun H locs hP hD hS => ?_)
  refine lv_if_eq (tgt := 27) hx hb dX8_change_8 (by decide) (fun c_3 => ?_) (fun c_3 => ?_)
  · replace hf := zit c_3 hf
    refine lv_iconst (v := (-1)) hx hb dX8_change_27 (by decide) ?_
    cases hf
    exact zretI hx hb hr hlocks hK hP hD hS dX8_change_28
  · replace hf := zif c_3 hf
    refine lv_aload_n hx hb dX8_change_11 rfl (lv_at hl 0 rfl) ?_
    refine va_get (D := D) (ci := 8) (v := .ref (hM 31)) (C := RX8) (T := TX8) (N := 14) hx hb hts hi8 hown hK hP 0 rfl rfl 12 (Nat.le_of_ble_eq_true rfl) (hts _ (List.mem_cons_of_mem _ wd_355)) (fun _ h9 => h9) rfl dX8_change_12 ?_
    refine lv_iload_n hx hb dX8_change_15 rfl (lv_at hl 2 rfl) ?_
    obtain ⟨r4, hq5, hf⟩ := zb1_some hf
    refine zcallVi (ws2 := (w8 cI cB hM M)) (rest := []) ⟨hx, hb, hml, hown, hts⟩ (c_X5_hasPart l D cI cB (fun j => hM (31 + j)) (fun j => M (35 + j)) a2 r4 hq5) (cwV 1 hts (z_gV hG wd_411 wd_328 wd_329 wd_10 wd_330) rfl rfl rfl q_X5_hasPart ⟨Nat.le_of_ble_eq_true rfl, Nat.le_of_ble_eq_true rfl⟩) hK hP hD hS hA 5 rfl rfl rfl [31] [0, 1, 2, 3, 4, 5, 6, 7, 8, 9, 10, 11, 12, 13, 14, 15, 16, 17, 18, 19, 20, 21, 22, 23, 24, 25, 26, 27, 28, 29, 30, 32, 33, 34, 35, 36, 37, 38, 39, 40, 41, 42, 43, 44] rfl rfl rfl rfl rfl rfl rfl hl.1 (Nat.le_of_ble_eq_true rfl) dX8_change_16 ⟨Nat.zero_le _, Nat.zero_le _⟩ rfl (fun H locs hP hD hS => ?_)
    refine lv_if_eq (tgt := 27) hx hb dX8_change_19 (by decide) (fun c_6 => ?_) (fun c_6 => ?_)
    · replace hf := zit c_6 hf
      refine lv_iconst (v := (-1)) hx hb dX8_change_27 (by decide) ?_
      cases hf
      exact zretI hx hb hr hlocks hK hP hD hS dX8_change_28
    · replace hf := zif c_6 hf
      refine lv_iload_n hx hb dX8_change_22 rfl (lv_at hl 1 rfl) ?_
      refine lv_iload_n hx hb dX8_change_23 rfl (lv_at hl 2 rfl) ?_
      refine lv_icmp_ne (tgt := 29) hx hb dX8_change_24 (by decide) (fun c_7 => ?_) (fun c_7 => ?_)
      · replace hf := zif c_7 hf
        refine lv_aload_n hx hb dX8_change_29 rfl (lv_at hl 0 rfl) ?_
        refine va_get (D := D) (ci := 8) (v := .ref (hM 7)) (C := RX8) (T := TX8) (N := 14) hx hb hts hi8 hown hK hP 0 rfl rfl 2 (Nat.le_of_ble_eq_true rfl) (hts _ (List.mem_cons_of_mem _ wd_345)) (fun _ h9 => h9) rfl dX8_change_30 ?_
        refine lv_aload_n hx hb dX8_change_33 rfl (lv_at hl 0 rfl) ?_
        refine va_get (D := D) (ci := 8) (v := .ref (hM 4)) (C := RX8) (T := TX8) (N := 14) hx hb hts hi8 hown hK hP 0 rfl rfl 1 (Nat.le_of_ble_eq_true rfl) (hts _ (List.mem_cons_of_mem _ wd_344)) (fun _ h9 => h9) rfl dX8_change_34 ?_
        obtain ⟨M_8, hq9, hf⟩ := zb1_some hf
        refine zcallVv (ws2 := (w8 cI cB hM (zp M 5 5 M_8))) (rest := []) ⟨hx, hb, hml, hown, hts⟩ (c_X2a_push l D cI cB (fun j => hM (7 + j)) (fun j => hM (4 + j)) (fun j => M (5 + j)) (fun j => M (3 + j)) M_8 hq9) (cwV 1 hts (z_gV hG wd_478 wd_479 wd_480 wd_4 wd_481) rfl rfl rfl q_X2a_push ⟨Nat.le_of_ble_eq_true rfl, Nat.le_of_ble_eq_true rfl⟩) hK hP hD hS hA 2 rfl rfl rfl [7, 8, 9, 4, 5, 6] [0, 1, 2, 3, 10, 11, 12, 13, 14, 15, 16, 17, 18, 19, 20, 21, 22, 23, 24, 25, 26, 27, 28, 29, 30, 31, 32, 33, 34, 35, 36, 37, 38, 39, 40, 41, 42, 43, 44] rfl rfl rfl (z_em ⟨rfl, rfl, rfl, rfl, rfl, rfl, rfl, rfl, rfl, rfl, rfl, rfl, rfl, rfl, rfl, rfl, rfl, rfl, rfl, rfl, rfl, rfl, rfl, rfl, rfl, rfl, rfl, rfl, rfl, rfl, rfl, rfl, rfl, rfl, rfl, rfl, rfl, rfl, rfl, trivial⟩) rfl rfl rfl hl.1 (Nat.le_of_ble_eq_true rfl) dX8_change_37 ⟨Nat.zero_le _, Nat.zero_le _⟩ rfl (fun H locs hP hD hS => ?_)
        obtain ⟨M_10, e_M_10, hf⟩ := zv_some hf
        rw [← e_M_10] at hP hD
        refine lv_aload_n hx hb dX8_change_40 rfl (lv_at hl 0 rfl) ?_
        refine va_get (D := D) (ci := 8) (v := .ref (hM 4)) (C := RX8) (T := TX8) (N := 14) hx hb hts hi8 hown hK hP 0 rfl rfl 1 (Nat.le_of_ble_eq_true rfl) (hts _ (List.mem_cons_of_mem _ wd_344)) (fun _ h9 => h9) rfl dX8_change_41 ?_
        refine lv_iload_n hx hb dX8_change_44 rfl (lv_at hl 1 rfl) ?_
        refine lv_iload_n hx hb dX8_change_45 rfl (lv_at hl 2 rfl) ?_
        obtain ⟨M_11, hq12, hf⟩ := zb1_some hf
        refine zcallVv (ws2 := (w8 cI cB hM (zp M_10 3 2 M_11))) (rest := []) ⟨hx, hb, hml, hown, hts⟩ (c_X1_swapPlaces l D cI cB (fun j => hM (4 + j)) (fun j => M_10 (3 + j)) a1 a2 M_11 hq12) (cwV 2 hts (z_gV hG wd_483 wd_484 wd_485 wd_3 wd_486) rfl rfl rfl q_X1_swapPlaces ⟨Nat.le_of_ble_eq_true rfl, Nat.le_of_ble_eq_true rfl⟩) hK hP hD hS hA 1 rfl rfl rfl [4, 5, 6] [0, 1, 2, 3, 7, 8, 9, 10, 11, 12, 13, 14, 15, 16, 17, 18, 19, 20, 21, 22, 23, 24, 25, 26, 27, 28, 29, 30, 31, 32, 33, 34, 35, 36, 37, 38, 39, 40, 41, 42, 43, 44] rfl rfl rfl (z_em ⟨rfl, rfl, rfl, rfl, rfl, rfl, rfl, rfl, rfl, rfl, rfl, rfl, rfl, rfl, rfl, rfl, rfl, rfl, rfl, rfl, rfl, rfl, rfl, rfl, rfl, rfl, rfl, rfl, rfl, rfl, rfl, rfl, rfl, rfl, rfl, rfl, rfl, rfl, rfl, rfl, rfl, rfl, trivial⟩) rfl rfl rfl hl.1 (Nat.le_of_ble_eq_true rfl) dX8_change_46 ⟨Nat.zero_le _, Nat.zero_le _⟩ rfl (fun H locs hP hD hS => ?_)
        obtain ⟨M_13, e_M_13, hf⟩ := zv_some hf
        rw [← e_M_13] at hP hD
        refine lv_aload_n hx hb dX8_change_49 rfl (lv_at hl 0 rfl) ?_
        obtain ⟨M_14, hq15, hf⟩ := zb1_some hf
        refine zcallVv (ws2 := (w8 cI cB hM M_14)) (rest := []) ⟨hx, hb, hml, hown, hts⟩ (c_X8_measureNow l D cI cB hM M_13 M_14 hq15) (cwV 0 hts (z_gV hG wd_450 wd_452 wd_s11 wd_1 wd_453) rfl rfl rfl q_X8_measureNow ⟨Nat.le_of_ble_eq_true rfl, Nat.le_of_ble_eq_true rfl⟩) hK hP hD hS hA 8 rfl rfl rfl [0, 1, 2, 3, 4, 5, 6, 7, 8, 9, 10, 11, 12, 13, 14, 15, 16, 17, 18, 19, 20, 21, 22, 23, 24, 25, 26, 27, 28, 29, 30, 31, 32, 33, 34, 35, 36, 37, 38, 39, 40, 41, 42, 43, 44] [] rfl rfl rfl rfl rfl rfl rfl hl.1 (Nat.le_of_ble_eq_true rfl) dX8_change_50 ⟨Nat.zero_le _, Nat.zero_le _⟩ rfl (fun H locs hP hD hS => ?_)
        refine lv_aload_n hx hb dX8_change_53 rfl (lv_at hl 0 rfl) ?_
        refine va_get (D := D) (ci := 8) (v := .ref (hM 31)) (C := RX8) (T := TX8) (N := 14) hx hb hts hi8 hown hK hP 0 rfl rfl 12 (Nat.le_of_ble_eq_true rfl) (hts _ (List.mem_cons_of_mem _ wd_355)) (fun _ h9 => h9) rfl dX8_change_54 ?_
        refine lv_aload_n hx hb dX8_change_57 rfl (lv_at hl 0 rfl) ?_
        refine va_get (D := D) (ci := 8) (v := .ref (hM 27)) (C := RX8) (T := TX8) (N := 14) hx hb hts hi8 hown hK hP 0 rfl rfl 8 (Nat.le_of_ble_eq_true rfl) (hts _ (List.mem_cons_of_mem _ wd_351)) (fun _ h9 => h9) rfl dX8_change_58 ?_
        obtain ⟨r16, hq17, hf⟩ := zb1_some hf
        refine zcallVi (ws2 := (w8 cI cB hM M_14)) (rest := []) ⟨hx, hb, hml, hown, hts⟩ (c_X5_sumOfGaps l D cI cB (fun j => hM (31 + j)) (fun j => hM (27 + j)) (fun j => M_14 (35 + j)) (fun j => M_14 (31 + j)) r16 hq17) (cwV 1 hts (z_gV hG wd_454 wd_455 wd_456 wd_10 wd_457) rfl rfl rfl q_X5_sumOfGaps ⟨Nat.le_of_ble_eq_true rfl, Nat.le_of_ble_eq_true rfl⟩) hK hP hD hS hA 5 rfl rfl rfl [31, 36, 37, 27] [0, 1, 2, 3, 4, 5, 6, 7, 8, 9, 10, 11, 12, 13, 14, 15, 16, 17, 18, 19, 20, 21, 22, 23, 24, 25, 26, 28, 29, 30, 32, 33, 34, 35, 38, 39, 40, 41, 42, 43, 44] rfl rfl rfl rfl rfl rfl rfl hl.1 (Nat.le_of_ble_eq_true rfl) dX8_change_61 ⟨Nat.zero_le _, Nat.zero_le _⟩ rfl (fun H locs hP hD hS => ?_)
        cases hf
        exact zretI hx hb hr hlocks hK hP hD hS dX8_change_64
      · replace hf := zit c_7 hf
        refine lv_iconst (v := (-1)) hx hb dX8_change_27 (by decide) ?_
        cases hf
        exact zretI hx hb hr hlocks hK hP hD hS dX8_change_28
def f_X8_alter (M : zMm) (a1 : Int32) (a2 : Int32) : Option (Int32 × zMm) := zb1 (f_X5_hasPart (fun j => M (35 + j)) a1) (fun (r1 : Int32) => if r1 = 0 then some (((-1) : Int32), M) else if a2 < (-9) then some (((-1) : Int32), M) else if a2 ≤ 9 then zb1 (f_X8_lengthNow M a1) (fun (r6 : Int32) => zv (r6 + a2) (fun (x8 : Int32) => if x8 < 1 then some (((-2) : Int32), M) else if x8 ≤ 299 then zb1 (f_X2a_push (fun j => M (5 + j)) (fun j => M (3 + j))) (fun (M_11 : zMm) => zv (zp M 5 5 M_11) (fun (M_13 : zMm) => zl 7 (M_13 4) a1 (fun v14 => zw 7 M_13 4 a1 (v14 + a2) (fun M_15 => some (x8, M_15))))) else some (((-2) : Int32), M))) else some (((-1) : Int32), M))
abbrev ww_X8_alter : List Cond := Cond.code yX8_alter cX8_alter 4 (some .int) :: wG
theorem q_X8_alter : yX8_alter.cls = RX8 ∧ yX8_alter.cls ≠ "java/lang/invoke/MethodHandle" ∧ yX8_alter.cls ≠ "java/lang/invoke/VarHandle" ∧ (parseMethodDescriptor yX8_alter.desc).map (fun d => d.parameters.length) = some 2 := by decide +kernel
set_option maxHeartbeats 4000000 in
set_option maxRecDepth 100000 in
theorem c_X8_alter (l : Launch) (D : va_G) (cI cB : ClassId) (hM : Nat → Nat) (M : zMm) (a1 : Int32) (a2 : Int32) (r0 : Int32) (M0 : zMm) (hf : f_X8_alter M a1 a2 = some (r0, M0)) : zMi l yX8_alter ww_X8_alter ({ frames := 4, cells := 0, slots := 0, locals := 88 } : Room) D cI cB [.ref (hM 0), .int a1, .int a2] (w8 cI cB hM M) r0 (w8 cI cB hM M0) := by
  refine zofI (cc := cX8_alter) (maxL := 4) (ret := (some .int)) (by decide +kernel) rfl (Nat.le_of_ble_eq_true rfl) ?_
  intro p e s m below meth c A ls hx hb hml hr hown hts hlocks hK hP hD hS hA hl
  have hl : lv_has ls 4 [(0, .ref (hM 0)), (1, .int a1), (2, .int a2)] := hl
  have hown : s.vm.findClass RX8 = some m.cls := hown
  have hG : ∀ w ∈ wG, w ∈ ww_X8_alter := fun w h => List.mem_cons_of_mem _ h
  have hi1 : ∀ w ∈ wsX10, w ∈ ww_X8_alter := fun w h => List.mem_cons_of_mem _ (z_inX1 w h)
  have hi8 : ∀ w ∈ wsX80, w ∈ ww_X8_alter := fun w h => List.mem_cons_of_mem _ (z_inX8 w h)
  unfold f_X8_alter at hf
  refine lv_aload_n hx hb dX8_alter_0 rfl (lv_at hl 0 rfl) ?_
  refine va_get (D := D) (ci := 8) (v := .ref (hM 31)) (C := RX8) (T := TX8) (N := 14) hx hb hts hi8 hown hK hP 0 rfl rfl 12 (Nat.le_of_ble_eq_true rfl) (hts _ (List.mem_cons_of_mem _ wd_355)) (fun _ h9 => h9) rfl dX8_alter_1 ?_
  refine lv_iload_n hx hb dX8_alter_4 rfl (lv_at hl 1 rfl) ?_
  obtain ⟨r1, hq2, hf⟩ := zb1_some hf
  refine zcallVi (ws2 := (w8 cI cB hM M)) (rest := []) ⟨hx, hb, hml, hown, hts⟩ (c_X5_hasPart l D cI cB (fun j => hM (31 + j)) (fun j => M (35 + j)) a1 r1 hq2) (cwV 1 hts (z_gV hG wd_411 wd_328 wd_329 wd_10 wd_330) rfl rfl rfl q_X5_hasPart ⟨Nat.le_of_ble_eq_true rfl, Nat.le_of_ble_eq_true rfl⟩) hK hP hD hS hA 5 rfl rfl rfl [31] [0, 1, 2, 3, 4, 5, 6, 7, 8, 9, 10, 11, 12, 13, 14, 15, 16, 17, 18, 19, 20, 21, 22, 23, 24, 25, 26, 27, 28, 29, 30, 32, 33, 34, 35, 36, 37, 38, 39, 40, 41, 42, 43, 44] rfl rfl rfl rfl rfl rfl rfl hl.1 (Nat.le_of_ble_eq_true rfl) dX8_alter_5 ⟨Nat.zero_le _, Nat.zero_le _⟩ rfl (fun H locs hP hD hS => ?_)
  refine lv_if_eq (tgt := 23) hx hb dX8_alter_8 (by decide) (fun c_3 => ?_) (fun c_3 => ?_)
  · replace hf := zit c_3 hf
    refine lv_iconst (v := (-1)) hx hb dX8_alter_23 (by decide) ?_
    cases hf
    exact zretI hx hb hr hlocks hK hP hD hS dX8_alter_24
  · replace hf := zif c_3 hf
    refine lv_iload_n hx hb dX8_alter_11 rfl (lv_at hl 2 rfl) ?_
    refine lv_bipush (v := (-9)) hx hb dX8_alter_12 (by decide) ?_
    refine lv_icmp_lt (tgt := 23) hx hb dX8_alter_14 (by decide) (fun c_4 => ?_) (fun c_4 => ?_)
    · replace hf := zit c_4 hf
      refine lv_iconst (v := (-1)) hx hb dX8_alter_23 (by decide) ?_
      cases hf
      exact zretI hx hb hr hlocks hK hP hD hS dX8_alter_24
    · replace hf := zif c_4 hf
      refine lv_iload_n hx hb dX8_alter_17 rfl (lv_at hl 2 rfl) ?_
      refine lv_bipush (v := 9) hx hb dX8_alter_18 (by decide) ?_
      refine lv_icmp_le (tgt := 25) hx hb dX8_alter_20 (by decide) (fun c_5 => ?_) (fun c_5 => ?_)
      · replace hf := zit c_5 hf
        refine lv_aload_n hx hb dX8_alter_25 rfl (lv_at hl 0 rfl) ?_
        refine lv_iload_n hx hb dX8_alter_26 rfl (lv_at hl 1 rfl) ?_
        obtain ⟨r6, hq7, hf⟩ := zb1_some hf
        refine zcallVi (ws2 := (w8 cI cB hM M)) (rest := []) ⟨hx, hb, hml, hown, hts⟩ (c_X8_lengthNow l D cI cB hM M a1 r6 hq7) (cwV 1 hts (z_gV hG wd_438 wd_440 wd_s10 wd_1 wd_441) rfl rfl rfl q_X8_lengthNow ⟨Nat.le_of_ble_eq_true rfl, Nat.le_of_ble_eq_true rfl⟩) hK hP hD hS hA 8 rfl rfl rfl [0, 4, 5, 6, 31, 32, 33, 34] [1, 2, 3, 7, 8, 9, 10, 11, 12, 13, 14, 15, 16, 17, 18, 19, 20, 21, 22, 23, 24, 25, 26, 27, 28, 29, 30, 35, 36, 37, 38, 39, 40, 41, 42, 43, 44] rfl rfl rfl rfl rfl rfl rfl hl.1 (Nat.le_of_ble_eq_true rfl) dX8_alter_27 ⟨Nat.zero_le _, Nat.zero_le _⟩ rfl (fun H locs hP hD hS => ?_)
        refine lv_iload_n hx hb dX8_alter_30 rfl (lv_at hl 2 rfl) ?_
        refine lv_iadd hx hb dX8_alter_31 ?_
        obtain ⟨x8, e_x8, hf⟩ := zv_some hf
        refine zt e_x8 ?_
        refine lv_istore_n (lv' := [(3, .int x8), (0, .ref (hM 0)), (1, .int a1), (2, .int a2)]) hx hb dX8_alter_32 rfl hl (by decide) rfl (fun ls hl => ?_)
        refine lv_iload_n hx hb dX8_alter_33 rfl (lv_at hl 0 rfl) ?_
        refine lv_iconst (v := 1) hx hb dX8_alter_34 (by decide) ?_
        refine lv_icmp_lt (tgt := 45) hx hb dX8_alter_35 (by decide) (fun c_9 => ?_) (fun c_9 => ?_)
        · replace hf := zit c_9 hf
          refine lv_bipush (v := (-2)) hx hb dX8_alter_45 (by decide) ?_
          cases hf
          exact zretI hx hb hr hlocks hK hP hD hS dX8_alter_47
        · replace hf := zif c_9 hf
          refine lv_iload_n hx hb dX8_alter_38 rfl (lv_at hl 0 rfl) ?_
          refine lv_sipush (v := 299) hx hb dX8_alter_39 (by decide) ?_
          refine lv_icmp_le (tgt := 48) hx hb dX8_alter_42 (by decide) (fun c_10 => ?_) (fun c_10 => ?_)
          · replace hf := zit c_10 hf
            refine lv_aload_n hx hb dX8_alter_48 rfl (lv_at hl 1 rfl) ?_
            refine va_get (D := D) (ci := 8) (v := .ref (hM 7)) (C := RX8) (T := TX8) (N := 14) hx hb hts hi8 hown hK hP 0 rfl rfl 2 (Nat.le_of_ble_eq_true rfl) (hts _ (List.mem_cons_of_mem _ wd_345)) (fun _ h9 => h9) rfl dX8_alter_49 ?_
            refine lv_aload_n hx hb dX8_alter_52 rfl (lv_at hl 1 rfl) ?_
            refine va_get (D := D) (ci := 8) (v := .ref (hM 4)) (C := RX8) (T := TX8) (N := 14) hx hb hts hi8 hown hK hP 0 rfl rfl 1 (Nat.le_of_ble_eq_true rfl) (hts _ (List.mem_cons_of_mem _ wd_344)) (fun _ h9 => h9) rfl dX8_alter_53 ?_
            obtain ⟨M_11, hq12, hf⟩ := zb1_some hf
            refine zcallVv (ws2 := (w8 cI cB hM (zp M 5 5 M_11))) (rest := []) ⟨hx, hb, hml, hown, hts⟩ (c_X2a_push l D cI cB (fun j => hM (7 + j)) (fun j => hM (4 + j)) (fun j => M (5 + j)) (fun j => M (3 + j)) M_11 hq12) (cwV 1 hts (z_gV hG wd_478 wd_479 wd_480 wd_4 wd_481) rfl rfl rfl q_X2a_push ⟨Nat.le_of_ble_eq_true rfl, Nat.le_of_ble_eq_true rfl⟩) hK hP hD hS hA 2 rfl rfl rfl [7, 8, 9, 4, 5, 6] [0, 1, 2, 3, 10, 11, 12, 13, 14, 15, 16, 17, 18, 19, 20, 21, 22, 23, 24, 25, 26, 27, 28, 29, 30, 31, 32, 33, 34, 35, 36, 37, 38, 39, 40, 41, 42, 43, 44] rfl rfl rfl (z_em ⟨rfl, rfl, rfl, rfl, rfl, rfl, rfl, rfl, rfl, rfl, rfl, rfl, rfl, rfl, rfl, rfl, rfl, rfl, rfl, rfl, rfl, rfl, rfl, rfl, rfl, rfl, rfl, rfl, rfl, rfl, rfl, rfl, rfl, rfl, rfl, rfl, rfl, rfl, rfl, trivial⟩) rfl rfl rfl hl.1 (Nat.le_of_ble_eq_true rfl) dX8_alter_56 ⟨Nat.zero_le _, Nat.zero_le _⟩ rfl (fun H locs hP hD hS => ?_)
            obtain ⟨M_13, e_M_13, hf⟩ := zv_some hf
            rw [← e_M_13] at hP hD
            refine lv_aload_n hx hb dX8_alter_59 rfl (lv_at hl 1 rfl) ?_
            refine va_get (D := D) (ci := 8) (v := .ref (hM 4)) (C := RX8) (T := TX8) (N := 14) hx hb hts hi8 hown hK hP 0 rfl rfl 1 (Nat.le_of_ble_eq_true rfl) (hts _ (List.mem_cons_of_mem _ wd_344)) (fun _ h9 => h9) rfl dX8_alter_60 ?_
            refine va_get (D := D) (ci := 1) (v := .ref (hM 6)) (C := RX1) (T := TX1) (N := 2) hx hb hts hi1 hown hK hP 4 rfl rfl 1 (Nat.le_of_ble_eq_true rfl) (hts _ (List.mem_cons_of_mem _ wd_57)) (fun _ h9 => h9) rfl dX8_alter_63 ?_
            refine lv_iload_n hx hb dX8_alter_66 rfl (lv_at hl 2 rfl) ?_
            refine lv_dup2_11 hx hb dX8_alter_67 rfl rfl ?_
            obtain ⟨i_v14, v14, e_v14, hf⟩ := zl_some hf
            refine va_iald (n := 7) (f := M_13 4) (cA := cI) hx hb hK hP 6 0 rfl rfl i_v14 dX8_alter_68 ?_
            refine zt e_v14 ?_
            refine lv_iload_n hx hb dX8_alter_69 rfl (lv_at hl 3 rfl) ?_
            refine lv_iadd hx hb dX8_alter_70 ?_
            obtain ⟨i_M_15, M_15, e_M_15, hf⟩ := zw_some hf
            refine va_iast (n := 7) (f := M_13 4) (cA := cI) hx hb hK hP hD hS 6 0 rfl rfl i_M_15 dX8_alter_71 (fun H locs hP hD hS => ?_)
            have hP : va_P D vwCl (w8 cI cB hM (zs M_13 4 (upd (M_13 4) a1.toNatClampNeg (v14 + a2)))) H := hP
            have hD : va_D A (w8 cI cB hM (zs M_13 4 (upd (M_13 4) a1.toNatClampNeg (v14 + a2)))) := hD
            rw [← e_M_15] at hP hD
            refine lv_iload_n hx hb dX8_alter_72 rfl (lv_at hl 0 rfl) ?_
            cases hf
            exact zretI hx hb hr hlocks hK hP hD hS dX8_alter_73
          · replace hf := zif c_10 hf
            refine lv_bipush (v := (-2)) hx hb dX8_alter_45 (by decide) ?_
            cases hf
            exact zretI hx hb hr hlocks hK hP hD hS dX8_alter_47
      · replace hf := zif c_5 hf
        refine lv_iconst (v := (-1)) hx hb dX8_alter_23 (by decide) ?_
        cases hf
        exact zretI hx hb hr hlocks hK hP hD hS dX8_alter_24
def f_X8_undo (M : zMm) : Option (Int32 × zMm) := if (M 8 0) = 0 then some (((-2) : Int32), M) else zb2 (f_X2a_popInto (fun j => M (5 + j)) (fun j => M (3 + j))) (fun (M_2 : zMm) (M_3 : zMm) => zv (zp (zp M 5 5 M_2) 3 2 M_3) (fun (M_5 : zMm) => some (M_5 8 0, M_5)))
abbrev ww_X8_undo : List Cond := Cond.code yX8_undo cX8_undo 1 (some .int) :: wG
theorem q_X8_undo : yX8_undo.cls = RX8 ∧ yX8_undo.cls ≠ "java/lang/invoke/MethodHandle" ∧ yX8_undo.cls ≠ "java/lang/invoke/VarHandle" ∧ (parseMethodDescriptor yX8_undo.desc).map (fun d => d.parameters.length) = some 0 := by decide +kernel
set_option maxHeartbeats 4000000 in
set_option maxRecDepth 100000 in
theorem c_X8_undo (l : Launch) (D : va_G) (cI cB : ClassId) (hM : Nat → Nat) (M : zMm) (r0 : Int32) (M0 : zMm) (hf : f_X8_undo M = some (r0, M0)) : zMi l yX8_undo ww_X8_undo ({ frames := 1, cells := 0, slots := 0, locals := 22 } : Room) D cI cB [.ref (hM 0)] (w8 cI cB hM M) r0 (w8 cI cB hM M0) := by
  refine zofI (cc := cX8_undo) (maxL := 1) (ret := (some .int)) (by decide +kernel) rfl (Nat.le_of_ble_eq_true rfl) ?_
  intro p e s m below meth c A ls hx hb hml hr hown hts hlocks hK hP hD hS hA hl
  have hl : lv_has ls 1 [(0, .ref (hM 0))] := hl
  have hown : s.vm.findClass RX8 = some m.cls := hown
  have hG : ∀ w ∈ wG, w ∈ ww_X8_undo := fun w h => List.mem_cons_of_mem _ h
  have hi2 : ∀ w ∈ wsX20, w ∈ ww_X8_undo := fun w h => List.mem_cons_of_mem _ (z_inX2 w h)
  have hi8 : ∀ w ∈ wsX80, w ∈ ww_X8_undo := fun w h => List.mem_cons_of_mem _ (z_inX8 w h)
  unfold f_X8_undo at hf
  refine lv_aload_n hx hb dX8_undo_0 rfl (lv_at hl 0 rfl) ?_
  refine va_get (D := D) (ci := 8) (v := .ref (hM 7)) (C := RX8) (T := TX8) (N := 14) hx hb hts hi8 hown hK hP 0 rfl rfl 2 (Nat.le_of_ble_eq_true rfl) (hts _ (List.mem_cons_of_mem _ wd_345)) (fun _ h9 => h9) rfl dX8_undo_1 ?_
  refine va_get (D := D) (ci := 2) (v := .int (M 8 0)) (C := RX2) (T := TX2) (N := 5) hx hb hts hi2 hown hK hP 7 rfl rfl 3 (Nat.le_of_ble_eq_true rfl) (hts _ (List.mem_cons_of_mem _ wd_76)) (fun _ h9 => h9) rfl dX8_undo_4 ?_
  refine lv_if_ne (tgt := 13) hx hb dX8_undo_7 (by decide) (fun c_1 => ?_) (fun c_1 => ?_)
  · replace hf := zif c_1 hf
    refine lv_aload_n hx hb dX8_undo_13 rfl (lv_at hl 0 rfl) ?_
    refine va_get (D := D) (ci := 8) (v := .ref (hM 7)) (C := RX8) (T := TX8) (N := 14) hx hb hts hi8 hown hK hP 0 rfl rfl 2 (Nat.le_of_ble_eq_true rfl) (hts _ (List.mem_cons_of_mem _ wd_345)) (fun _ h9 => h9) rfl dX8_undo_14 ?_
    refine lv_aload_n hx hb dX8_undo_17 rfl (lv_at hl 0 rfl) ?_
    refine va_get (D := D) (ci := 8) (v := .ref (hM 4)) (C := RX8) (T := TX8) (N := 14) hx hb hts hi8 hown hK hP 0 rfl rfl 1 (Nat.le_of_ble_eq_true rfl) (hts _ (List.mem_cons_of_mem _ wd_344)) (fun _ h9 => h9) rfl dX8_undo_18 ?_
    obtain ⟨M_2, M_3, hq4, hf⟩ := zb2_some hf
    refine zcallVv (ws2 := (w8 cI cB hM (zp (zp M 5 5 M_2) 3 2 M_3))) (rest := []) ⟨hx, hb, hml, hown, hts⟩ (c_X2a_popInto l D cI cB (fun j => hM (7 + j)) (fun j => hM (4 + j)) (fun j => M (5 + j)) (fun j => M (3 + j)) M_2 M_3 hq4) (cwV 1 hts (z_gV hG wd_495 wd_496 wd_497 wd_4 wd_498) rfl rfl rfl q_X2a_popInto ⟨Nat.le_of_ble_eq_true rfl, Nat.le_of_ble_eq_true rfl⟩) hK hP hD hS hA 2 rfl rfl rfl [7, 8, 9, 4, 5, 6] [0, 1, 2, 3, 10, 11, 12, 13, 14, 15, 16, 17, 18, 19, 20, 21, 22, 23, 24, 25, 26, 27, 28, 29, 30, 31, 32, 33, 34, 35, 36, 37, 38, 39, 40, 41, 42, 43, 44] rfl rfl rfl (z_em ⟨rfl, rfl, rfl, rfl, rfl, rfl, rfl, rfl, rfl, rfl, rfl, rfl, rfl, rfl, rfl, rfl, rfl, rfl, rfl, rfl, rfl, rfl, rfl, rfl, rfl, rfl, rfl, rfl, rfl, rfl, rfl, rfl, rfl, rfl, rfl, rfl, rfl, rfl, rfl, trivial⟩) rfl rfl rfl hl.1 (Nat.le_of_ble_eq_true rfl) dX8_undo_21 ⟨Nat.zero_le _, Nat.zero_le _⟩ rfl (fun H locs hP hD hS => ?_)
    obtain ⟨M_5, e_M_5, hf⟩ := zv_some hf
    rw [← e_M_5] at hP hD
    refine lv_aload_n hx hb dX8_undo_24 rfl (lv_at hl 0 rfl) ?_
    refine va_get (D := D) (ci := 8) (v := .ref (hM 7)) (C := RX8) (T := TX8) (N := 14) hx hb hts hi8 hown hK hP 0 rfl rfl 2 (Nat.le_of_ble_eq_true rfl) (hts _ (List.mem_cons_of_mem _ wd_345)) (fun _ h9 => h9) rfl dX8_undo_25 ?_
    refine va_get (D := D) (ci := 2) (v := .int (M_5 8 0)) (C := RX2) (T := TX2) (N := 5) hx hb hts hi2 hown hK hP 7 rfl rfl 3 (Nat.le_of_ble_eq_true rfl) (hts _ (List.mem_cons_of_mem _ wd_76)) (fun _ h9 => h9) rfl dX8_undo_28 ?_
    cases hf
    exact zretI hx hb hr hlocks hK hP hD hS dX8_undo_31
  · replace hf := zit c_1 hf
    refine lv_bipush (v := (-2)) hx hb dX8_undo_10 (by decide) ?_
    cases hf
    exact zretI hx hb hr hlocks hK hP hD hS dX8_undo_12
