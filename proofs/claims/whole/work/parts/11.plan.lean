def f_X5_clear (M : zMm) : Option (zMm) := zv (zs M 6 (fun _ => 0)) (fun (M_1 : zMm) => zv (zs M_1 7 (fun _ => 0)) (fun (M_2 : zMm) => zv (zs M_2 8 (fun _ => 0)) (fun (M_3 : zMm) => zv (zs M_3 9 (fun _ => 1)) (fun (M_4 : zMm) => zv (zs M_4 10 (fun _ => 0)) (fun (M_5 : zMm) => zv (zs M_5 11 (fun _ => 300)) (fun (M_6 : zMm) => some M_6))))))
abbrev ww_X5_clear : List Cond := Cond.code yX5_clear cX5_clear 1 none :: wG
theorem q_X5_clear : yX5_clear.cls = RX5 ∧ yX5_clear.cls ≠ "java/lang/invoke/MethodHandle" ∧ yX5_clear.cls ≠ "java/lang/invoke/VarHandle" ∧ (parseMethodDescriptor yX5_clear.desc).map (fun d => d.parameters.length) = some 0 := by decide +kernel
set_option maxHeartbeats 4000000 in
set_option maxRecDepth 100000 in
theorem c_X5_clear (l : Launch) (D : va_G) (cI cB : ClassId) (hM : Nat → Nat) (M : zMm) (M0 : zMm) (hf : f_X5_clear M = some M0) : zMv l yX5_clear ww_X5_clear ({ frames := 0, cells := 0, slots := 0, locals := 0 } : Room) D cI cB [.ref (hM 0)] (w5 cI cB hM M) (w5 cI cB hM M0) := by
  refine zofV (cc := cX5_clear) (maxL := 1) (ret := none) (by decide +kernel) rfl (Nat.le_of_ble_eq_true rfl) ?_
  intro p e s m below meth c A ls hx hb hml hr hown hts hlocks hK hP hD hS hA hl
  have hl : lv_has ls 1 [(0, .ref (hM 0))] := hl
  have hown : s.vm.findClass RX5 = some m.cls := hown
  have hG : ∀ w ∈ wG, w ∈ ww_X5_clear := fun w h => List.mem_cons_of_mem _ h
  have hi5 : ∀ w ∈ wsX50, w ∈ ww_X5_clear := fun w h => List.mem_cons_of_mem _ (z_inX5 w h)
  unfold f_X5_clear at hf
  refine lv_aload_n hx hb dX5_clear_0 rfl (lv_at hl 0 rfl) ?_
  refine lv_iconst (v := 0) hx hb dX5_clear_1 (by decide) ?_
  obtain ⟨M_1, e_M_1, hf⟩ := zv_some hf
  refine va_put (D := D) (ci := 5) (v := .int 0) (ty := .int) (C := RX5) (T := TX5) (N := 12) hx hb hts hi5 tyX5 tyX5_ok nmX5 hown hK hP hD hS 0 rfl rfl 6 (Nat.le_of_ble_eq_true rfl) (hts _ (List.mem_cons_of_mem _ wd_191)) (fun _ h9 => h9) rfl (by decide +kernel) rfl rfl (Nat.le_of_ble_eq_true rfl) dX5_clear_2 (fun H locs hP hD hS => ?_)
  have hP : va_P D vwCl (w5 cI cB hM (zs M 6 (fun _ => 0))) H := hP
  have hD : va_D A (w5 cI cB hM (zs M 6 (fun _ => 0))) := hD
  rw [← e_M_1] at hP hD
  refine lv_aload_n hx hb dX5_clear_5 rfl (lv_at hl 0 rfl) ?_
  refine lv_iconst (v := 0) hx hb dX5_clear_6 (by decide) ?_
  obtain ⟨M_2, e_M_2, hf⟩ := zv_some hf
  refine va_put (D := D) (ci := 5) (v := .int 0) (ty := .int) (C := RX5) (T := TX5) (N := 12) hx hb hts hi5 tyX5 tyX5_ok nmX5 hown hK hP hD hS 0 rfl rfl 7 (Nat.le_of_ble_eq_true rfl) (hts _ (List.mem_cons_of_mem _ wd_194)) (fun _ h9 => h9) rfl (by decide +kernel) rfl rfl (Nat.le_of_ble_eq_true rfl) dX5_clear_7 (fun H locs hP hD hS => ?_)
  have hP : va_P D vwCl (w5 cI cB hM (zs M_1 7 (fun _ => 0))) H := hP
  have hD : va_D A (w5 cI cB hM (zs M_1 7 (fun _ => 0))) := hD
  rw [← e_M_2] at hP hD
  refine lv_aload_n hx hb dX5_clear_10 rfl (lv_at hl 0 rfl) ?_
  refine lv_iconst (v := 0) hx hb dX5_clear_11 (by decide) ?_
  obtain ⟨M_3, e_M_3, hf⟩ := zv_some hf
  refine va_put (D := D) (ci := 5) (v := .int 0) (ty := .int) (C := RX5) (T := TX5) (N := 12) hx hb hts hi5 tyX5 tyX5_ok nmX5 hown hK hP hD hS 0 rfl rfl 8 (Nat.le_of_ble_eq_true rfl) (hts _ (List.mem_cons_of_mem _ wd_197)) (fun _ h9 => h9) rfl (by decide +kernel) rfl rfl (Nat.le_of_ble_eq_true rfl) dX5_clear_12 (fun H locs hP hD hS => ?_)
  have hP : va_P D vwCl (w5 cI cB hM (zs M_2 8 (fun _ => 0))) H := hP
  have hD : va_D A (w5 cI cB hM (zs M_2 8 (fun _ => 0))) := hD
  rw [← e_M_3] at hP hD
  refine lv_aload_n hx hb dX5_clear_15 rfl (lv_at hl 0 rfl) ?_
  refine lv_iconst (v := 1) hx hb dX5_clear_16 (by decide) ?_
  obtain ⟨M_4, e_M_4, hf⟩ := zv_some hf
  refine va_put (D := D) (ci := 5) (v := .int 1) (ty := .int) (C := RX5) (T := TX5) (N := 12) hx hb hts hi5 tyX5 tyX5_ok nmX5 hown hK hP hD hS 0 rfl rfl 9 (Nat.le_of_ble_eq_true rfl) (hts _ (List.mem_cons_of_mem _ wd_200)) (fun _ h9 => h9) rfl (by decide +kernel) rfl rfl (Nat.le_of_ble_eq_true rfl) dX5_clear_17 (fun H locs hP hD hS => ?_)
  have hP : va_P D vwCl (w5 cI cB hM (zs M_3 9 (fun _ => 1))) H := hP
  have hD : va_D A (w5 cI cB hM (zs M_3 9 (fun _ => 1))) := hD
  rw [← e_M_4] at hP hD
  refine lv_aload_n hx hb dX5_clear_20 rfl (lv_at hl 0 rfl) ?_
  refine lv_iconst (v := 0) hx hb dX5_clear_21 (by decide) ?_
  obtain ⟨M_5, e_M_5, hf⟩ := zv_some hf
  refine va_put (D := D) (ci := 5) (v := .int 0) (ty := .int) (C := RX5) (T := TX5) (N := 12) hx hb hts hi5 tyX5 tyX5_ok nmX5 hown hK hP hD hS 0 rfl rfl 10 (Nat.le_of_ble_eq_true rfl) (hts _ (List.mem_cons_of_mem _ wd_201)) (fun _ h9 => h9) rfl (by decide +kernel) rfl rfl (Nat.le_of_ble_eq_true rfl) dX5_clear_22 (fun H locs hP hD hS => ?_)
  have hP : va_P D vwCl (w5 cI cB hM (zs M_4 10 (fun _ => 0))) H := hP
  have hD : va_D A (w5 cI cB hM (zs M_4 10 (fun _ => 0))) := hD
  rw [← e_M_5] at hP hD
  refine lv_aload_n hx hb dX5_clear_25 rfl (lv_at hl 0 rfl) ?_
  refine lv_sipush (v := 300) hx hb dX5_clear_26 (by decide) ?_
  obtain ⟨M_6, e_M_6, hf⟩ := zv_some hf
  refine va_put (D := D) (ci := 5) (v := .int 300) (ty := .int) (C := RX5) (T := TX5) (N := 12) hx hb hts hi5 tyX5 tyX5_ok nmX5 hown hK hP hD hS 0 rfl rfl 11 (Nat.le_of_ble_eq_true rfl) (hts _ (List.mem_cons_of_mem _ wd_204)) (fun _ h9 => h9) rfl (by decide +kernel) rfl rfl (Nat.le_of_ble_eq_true rfl) dX5_clear_29 (fun H locs hP hD hS => ?_)
  have hP : va_P D vwCl (w5 cI cB hM (zs M_5 11 (fun _ => 300))) H := hP
  have hD : va_D A (w5 cI cB hM (zs M_5 11 (fun _ => 300))) := hD
  rw [← e_M_6] at hP hD
  cases hf
  exact zretV hx hb hr hlocks hK hP hD hS dX5_clear_32
def f_X5_hasTailor (M : zMm) (a1 : Int32) : Option (Int32) := if a1 < 0 then some (0 : Int32) else if (M 6 0) ≤ a1 then some (0 : Int32) else some (1 : Int32)
abbrev ww_X5_hasTailor : List Cond := Cond.code yX5_hasTailor cX5_hasTailor 2 (some .boolean) :: wG
theorem q_X5_hasTailor : yX5_hasTailor.cls = RX5 ∧ yX5_hasTailor.cls ≠ "java/lang/invoke/MethodHandle" ∧ yX5_hasTailor.cls ≠ "java/lang/invoke/VarHandle" ∧ (parseMethodDescriptor yX5_hasTailor.desc).map (fun d => d.parameters.length) = some 1 := by decide +kernel
set_option maxHeartbeats 4000000 in
set_option maxRecDepth 100000 in
theorem c_X5_hasTailor (l : Launch) (D : va_G) (cI cB : ClassId) (hM : Nat → Nat) (M : zMm) (a1 : Int32) (r0 : Int32) (hf : f_X5_hasTailor M a1 = some r0) : zMi l yX5_hasTailor ww_X5_hasTailor ({ frames := 0, cells := 0, slots := 0, locals := 0 } : Room) D cI cB [.ref (hM 0), .int a1] [k5_0 cI cB hM M] r0 [k5_0 cI cB hM M] := by
  refine zofI (cc := cX5_hasTailor) (maxL := 2) (ret := (some .boolean)) (by decide +kernel) rfl (Nat.le_of_ble_eq_true rfl) ?_
  intro p e s m below meth c A ls hx hb hml hr hown hts hlocks hK hP hD hS hA hl
  have hl : lv_has ls 2 [(0, .ref (hM 0)), (1, .int a1)] := hl
  have hown : s.vm.findClass RX5 = some m.cls := hown
  have hG : ∀ w ∈ wG, w ∈ ww_X5_hasTailor := fun w h => List.mem_cons_of_mem _ h
  have hi5 : ∀ w ∈ wsX50, w ∈ ww_X5_hasTailor := fun w h => List.mem_cons_of_mem _ (z_inX5 w h)
  unfold f_X5_hasTailor at hf
  refine lv_iload_n hx hb dX5_hasTailor_0 rfl (lv_at hl 1 rfl) ?_
  refine lv_if_lt (tgt := 16) hx hb dX5_hasTailor_1 (by decide) (fun c_1 => ?_) (fun c_1 => ?_)
  · replace hf := zit c_1 hf
    refine lv_iconst (v := 0) hx hb dX5_hasTailor_16 (by decide) ?_
    cases hf
    exact zretB hx hb hr hlocks rfl hK hP hD hS dX5_hasTailor_17
  · replace hf := zif c_1 hf
    refine lv_iload_n hx hb dX5_hasTailor_4 rfl (lv_at hl 1 rfl) ?_
    refine lv_aload_n hx hb dX5_hasTailor_5 rfl (lv_at hl 0 rfl) ?_
    refine va_get (D := D) (ci := 5) (v := .int (M 6 0)) (C := RX5) (T := TX5) (N := 12) hx hb hts hi5 hown hK hP 0 rfl rfl 6 (Nat.le_of_ble_eq_true rfl) (hts _ (List.mem_cons_of_mem _ wd_191)) (fun _ h9 => h9) rfl dX5_hasTailor_6 ?_
    refine lv_icmp_ge (tgt := 16) hx hb dX5_hasTailor_9 (by decide) (fun c_2 => ?_) (fun c_2 => ?_)
    · replace hf := zit c_2 hf
      refine lv_iconst (v := 0) hx hb dX5_hasTailor_16 (by decide) ?_
      cases hf
      exact zretB hx hb hr hlocks rfl hK hP hD hS dX5_hasTailor_17
    · replace hf := zif c_2 hf
      refine lv_iconst (v := 1) hx hb dX5_hasTailor_12 (by decide) ?_
      refine lv_goto (tgt := 17) hx hb dX5_hasTailor_13 (by decide) ?_
      cases hf
      exact zretB hx hb hr hlocks rfl hK hP hD hS dX5_hasTailor_17
def f_X5_hasPart (M : zMm) (a1 : Int32) : Option (Int32) := if a1 < 0 then some (0 : Int32) else if (M 7 0) ≤ a1 then some (0 : Int32) else some (1 : Int32)
abbrev ww_X5_hasPart : List Cond := Cond.code yX5_hasPart cX5_hasPart 2 (some .boolean) :: wG
theorem q_X5_hasPart : yX5_hasPart.cls = RX5 ∧ yX5_hasPart.cls ≠ "java/lang/invoke/MethodHandle" ∧ yX5_hasPart.cls ≠ "java/lang/invoke/VarHandle" ∧ (parseMethodDescriptor yX5_hasPart.desc).map (fun d => d.parameters.length) = some 1 := by decide +kernel
set_option maxHeartbeats 4000000 in
set_option maxRecDepth 100000 in
theorem c_X5_hasPart (l : Launch) (D : va_G) (cI cB : ClassId) (hM : Nat → Nat) (M : zMm) (a1 : Int32) (r0 : Int32) (hf : f_X5_hasPart M a1 = some r0) : zMi l yX5_hasPart ww_X5_hasPart ({ frames := 0, cells := 0, slots := 0, locals := 0 } : Room) D cI cB [.ref (hM 0), .int a1] [k5_0 cI cB hM M] r0 [k5_0 cI cB hM M] := by
  refine zofI (cc := cX5_hasPart) (maxL := 2) (ret := (some .boolean)) (by decide +kernel) rfl (Nat.le_of_ble_eq_true rfl) ?_
  intro p e s m below meth c A ls hx hb hml hr hown hts hlocks hK hP hD hS hA hl
  have hl : lv_has ls 2 [(0, .ref (hM 0)), (1, .int a1)] := hl
  have hown : s.vm.findClass RX5 = some m.cls := hown
  have hG : ∀ w ∈ wG, w ∈ ww_X5_hasPart := fun w h => List.mem_cons_of_mem _ h
  have hi5 : ∀ w ∈ wsX50, w ∈ ww_X5_hasPart := fun w h => List.mem_cons_of_mem _ (z_inX5 w h)
  unfold f_X5_hasPart at hf
  refine lv_iload_n hx hb dX5_hasPart_0 rfl (lv_at hl 1 rfl) ?_
  refine lv_if_lt (tgt := 16) hx hb dX5_hasPart_1 (by decide) (fun c_1 => ?_) (fun c_1 => ?_)
  · replace hf := zit c_1 hf
    refine lv_iconst (v := 0) hx hb dX5_hasPart_16 (by decide) ?_
    cases hf
    exact zretB hx hb hr hlocks rfl hK hP hD hS dX5_hasPart_17
  · replace hf := zif c_1 hf
    refine lv_iload_n hx hb dX5_hasPart_4 rfl (lv_at hl 1 rfl) ?_
    refine lv_aload_n hx hb dX5_hasPart_5 rfl (lv_at hl 0 rfl) ?_
    refine va_get (D := D) (ci := 5) (v := .int (M 7 0)) (C := RX5) (T := TX5) (N := 12) hx hb hts hi5 hown hK hP 0 rfl rfl 7 (Nat.le_of_ble_eq_true rfl) (hts _ (List.mem_cons_of_mem _ wd_194)) (fun _ h9 => h9) rfl dX5_hasPart_6 ?_
    refine lv_icmp_ge (tgt := 16) hx hb dX5_hasPart_9 (by decide) (fun c_2 => ?_) (fun c_2 => ?_)
    · replace hf := zit c_2 hf
      refine lv_iconst (v := 0) hx hb dX5_hasPart_16 (by decide) ?_
      cases hf
      exact zretB hx hb hr hlocks rfl hK hP hD hS dX5_hasPart_17
    · replace hf := zif c_2 hf
      refine lv_iconst (v := 1) hx hb dX5_hasPart_12 (by decide) ?_
      refine lv_goto (tgt := 17) hx hb dX5_hasPart_13 (by decide) ?_
      cases hf
      exact zretB hx hb hr hlocks rfl hK hP hD hS dX5_hasPart_17
def f_X5_hasSeam (M : zMm) (a1 : Int32) : Option (Int32) := if a1 < 0 then some (0 : Int32) else if (M 8 0) ≤ a1 then some (0 : Int32) else some (1 : Int32)
abbrev ww_X5_hasSeam : List Cond := Cond.code yX5_hasSeam cX5_hasSeam 2 (some .boolean) :: wG
theorem q_X5_hasSeam : yX5_hasSeam.cls = RX5 ∧ yX5_hasSeam.cls ≠ "java/lang/invoke/MethodHandle" ∧ yX5_hasSeam.cls ≠ "java/lang/invoke/VarHandle" ∧ (parseMethodDescriptor yX5_hasSeam.desc).map (fun d => d.parameters.length) = some 1 := by decide +kernel
set_option maxHeartbeats 4000000 in
set_option maxRecDepth 100000 in
theorem c_X5_hasSeam (l : Launch) (D : va_G) (cI cB : ClassId) (hM : Nat → Nat) (M : zMm) (a1 : Int32) (r0 : Int32) (hf : f_X5_hasSeam M a1 = some r0) : zMi l yX5_hasSeam ww_X5_hasSeam ({ frames := 0, cells := 0, slots := 0, locals := 0 } : Room) D cI cB [.ref (hM 0), .int a1] [k5_0 cI cB hM M] r0 [k5_0 cI cB hM M] := by
  refine zofI (cc := cX5_hasSeam) (maxL := 2) (ret := (some .boolean)) (by decide +kernel) rfl (Nat.le_of_ble_eq_true rfl) ?_
  intro p e s m below meth c A ls hx hb hml hr hown hts hlocks hK hP hD hS hA hl
  have hl : lv_has ls 2 [(0, .ref (hM 0)), (1, .int a1)] := hl
  have hown : s.vm.findClass RX5 = some m.cls := hown
  have hG : ∀ w ∈ wG, w ∈ ww_X5_hasSeam := fun w h => List.mem_cons_of_mem _ h
  have hi5 : ∀ w ∈ wsX50, w ∈ ww_X5_hasSeam := fun w h => List.mem_cons_of_mem _ (z_inX5 w h)
  unfold f_X5_hasSeam at hf
  refine lv_iload_n hx hb dX5_hasSeam_0 rfl (lv_at hl 1 rfl) ?_
  refine lv_if_lt (tgt := 16) hx hb dX5_hasSeam_1 (by decide) (fun c_1 => ?_) (fun c_1 => ?_)
  · replace hf := zit c_1 hf
    refine lv_iconst (v := 0) hx hb dX5_hasSeam_16 (by decide) ?_
    cases hf
    exact zretB hx hb hr hlocks rfl hK hP hD hS dX5_hasSeam_17
  · replace hf := zif c_1 hf
    refine lv_iload_n hx hb dX5_hasSeam_4 rfl (lv_at hl 1 rfl) ?_
    refine lv_aload_n hx hb dX5_hasSeam_5 rfl (lv_at hl 0 rfl) ?_
    refine va_get (D := D) (ci := 5) (v := .int (M 8 0)) (C := RX5) (T := TX5) (N := 12) hx hb hts hi5 hown hK hP 0 rfl rfl 8 (Nat.le_of_ble_eq_true rfl) (hts _ (List.mem_cons_of_mem _ wd_197)) (fun _ h9 => h9) rfl dX5_hasSeam_6 ?_
    refine lv_icmp_ge (tgt := 16) hx hb dX5_hasSeam_9 (by decide) (fun c_2 => ?_) (fun c_2 => ?_)
    · replace hf := zit c_2 hf
      refine lv_iconst (v := 0) hx hb dX5_hasSeam_16 (by decide) ?_
      cases hf
      exact zretB hx hb hr hlocks rfl hK hP hD hS dX5_hasSeam_17
    · replace hf := zif c_2 hf
      refine lv_iconst (v := 1) hx hb dX5_hasSeam_12 (by decide) ?_
      refine lv_goto (tgt := 17) hx hb dX5_hasSeam_13 (by decide) ?_
      cases hf
      exact zretB hx hb hr hlocks rfl hK hP hD hS dX5_hasSeam_17
def f_X5_takesTailor (M : zMm) (a1 : Int32) : Option (Int32 × zMm) := if (6 : Int32) ≤ (M 6 0) then some ((0 : Int32), M) else if a1 < 80 then some ((0 : Int32), M) else if a1 ≤ 120 then zw 6 M 0 (M 6 0) a1 (fun M_4 => zv (zs M_4 6 (fun _ => (M_4 6 0) + 1)) (fun (M_5 : zMm) => some ((1 : Int32), M_5))) else some ((0 : Int32), M)
abbrev ww_X5_takesTailor : List Cond := Cond.code yX5_takesTailor cX5_takesTailor 2 (some .boolean) :: wG
theorem q_X5_takesTailor : yX5_takesTailor.cls = RX5 ∧ yX5_takesTailor.cls ≠ "java/lang/invoke/MethodHandle" ∧ yX5_takesTailor.cls ≠ "java/lang/invoke/VarHandle" ∧ (parseMethodDescriptor yX5_takesTailor.desc).map (fun d => d.parameters.length) = some 1 := by decide +kernel
set_option maxHeartbeats 4000000 in
set_option maxRecDepth 100000 in
theorem c_X5_takesTailor (l : Launch) (D : va_G) (cI cB : ClassId) (hM : Nat → Nat) (M : zMm) (a1 : Int32) (r0 : Int32) (M0 : zMm) (hf : f_X5_takesTailor M a1 = some (r0, M0)) : zMi l yX5_takesTailor ww_X5_takesTailor ({ frames := 0, cells := 0, slots := 0, locals := 0 } : Room) D cI cB [.ref (hM 0), .int a1] (w5 cI cB hM M) r0 (w5 cI cB hM M0) := by
  refine zofI (cc := cX5_takesTailor) (maxL := 2) (ret := (some .boolean)) (by decide +kernel) rfl (Nat.le_of_ble_eq_true rfl) ?_
  intro p e s m below meth c A ls hx hb hml hr hown hts hlocks hK hP hD hS hA hl
  have hl : lv_has ls 2 [(0, .ref (hM 0)), (1, .int a1)] := hl
  have hown : s.vm.findClass RX5 = some m.cls := hown
  have hG : ∀ w ∈ wG, w ∈ ww_X5_takesTailor := fun w h => List.mem_cons_of_mem _ h
  have hi5 : ∀ w ∈ wsX50, w ∈ ww_X5_takesTailor := fun w h => List.mem_cons_of_mem _ (z_inX5 w h)
  unfold f_X5_takesTailor at hf
  refine lv_aload_n hx hb dX5_takesTailor_0 rfl (lv_at hl 0 rfl) ?_
  refine va_get (D := D) (ci := 5) (v := .int (M 6 0)) (C := RX5) (T := TX5) (N := 12) hx hb hts hi5 hown hK hP 0 rfl rfl 6 (Nat.le_of_ble_eq_true rfl) (hts _ (List.mem_cons_of_mem _ wd_191)) (fun _ h9 => h9) rfl dX5_takesTailor_1 ?_
  refine lv_bipush (v := 6) hx hb dX5_takesTailor_4 (by decide) ?_
  refine lv_icmp_ge (tgt := 21) hx hb dX5_takesTailor_6 (by decide) (fun c_1 => ?_) (fun c_1 => ?_)
  · replace hf := zit c_1 hf
    refine lv_iconst (v := 0) hx hb dX5_takesTailor_21 (by decide) ?_
    cases hf
    exact zretB hx hb hr hlocks rfl hK hP hD hS dX5_takesTailor_22
  · replace hf := zif c_1 hf
    refine lv_iload_n hx hb dX5_takesTailor_9 rfl (lv_at hl 1 rfl) ?_
    refine lv_bipush (v := 80) hx hb dX5_takesTailor_10 (by decide) ?_
    refine lv_icmp_lt (tgt := 21) hx hb dX5_takesTailor_12 (by decide) (fun c_2 => ?_) (fun c_2 => ?_)
    · replace hf := zit c_2 hf
      refine lv_iconst (v := 0) hx hb dX5_takesTailor_21 (by decide) ?_
      cases hf
      exact zretB hx hb hr hlocks rfl hK hP hD hS dX5_takesTailor_22
    · replace hf := zif c_2 hf
      refine lv_iload_n hx hb dX5_takesTailor_15 rfl (lv_at hl 1 rfl) ?_
      refine lv_bipush (v := 120) hx hb dX5_takesTailor_16 (by decide) ?_
      refine lv_icmp_le (tgt := 23) hx hb dX5_takesTailor_18 (by decide) (fun c_3 => ?_) (fun c_3 => ?_)
      · replace hf := zit c_3 hf
        refine lv_aload_n hx hb dX5_takesTailor_23 rfl (lv_at hl 0 rfl) ?_
        refine va_get (D := D) (ci := 5) (v := .ref (hM 1)) (C := RX5) (T := TX5) (N := 12) hx hb hts hi5 hown hK hP 0 rfl rfl 0 (Nat.le_of_ble_eq_true rfl) (hts _ (List.mem_cons_of_mem _ wd_178)) (fun _ h9 => h9) rfl dX5_takesTailor_24 ?_
        refine lv_aload_n hx hb dX5_takesTailor_27 rfl (lv_at hl 0 rfl) ?_
        refine va_get (D := D) (ci := 5) (v := .int (M 6 0)) (C := RX5) (T := TX5) (N := 12) hx hb hts hi5 hown hK hP 0 rfl rfl 6 (Nat.le_of_ble_eq_true rfl) (hts _ (List.mem_cons_of_mem _ wd_191)) (fun _ h9 => h9) rfl dX5_takesTailor_28 ?_
        refine lv_iload_n hx hb dX5_takesTailor_31 rfl (lv_at hl 1 rfl) ?_
        obtain ⟨i_M_4, M_4, e_M_4, hf⟩ := zw_some hf
        refine va_iast (n := 6) (f := M 0) (cA := cI) hx hb hK hP hD hS 1 0 rfl rfl i_M_4 dX5_takesTailor_32 (fun H locs hP hD hS => ?_)
        have hP : va_P D vwCl (w5 cI cB hM (zs M 0 (upd (M 0) (M 6 0).toNatClampNeg a1))) H := hP
        have hD : va_D A (w5 cI cB hM (zs M 0 (upd (M 0) (M 6 0).toNatClampNeg a1))) := hD
        rw [← e_M_4] at hP hD
        refine lv_aload_n hx hb dX5_takesTailor_33 rfl (lv_at hl 0 rfl) ?_
        refine lv_dup hx hb dX5_takesTailor_34 rfl ?_
        refine va_get (D := D) (ci := 5) (v := .int (M_4 6 0)) (C := RX5) (T := TX5) (N := 12) hx hb hts hi5 hown hK hP 0 rfl rfl 6 (Nat.le_of_ble_eq_true rfl) (hts _ (List.mem_cons_of_mem _ wd_191)) (fun _ h9 => h9) rfl dX5_takesTailor_35 ?_
        refine lv_iconst (v := 1) hx hb dX5_takesTailor_38 (by decide) ?_
        refine lv_iadd hx hb dX5_takesTailor_39 ?_
        obtain ⟨M_5, e_M_5, hf⟩ := zv_some hf
        refine va_put (D := D) (ci := 5) (v := .int ((M_4 6 0) + 1)) (ty := .int) (C := RX5) (T := TX5) (N := 12) hx hb hts hi5 tyX5 tyX5_ok nmX5 hown hK hP hD hS 0 rfl rfl 6 (Nat.le_of_ble_eq_true rfl) (hts _ (List.mem_cons_of_mem _ wd_191)) (fun _ h9 => h9) rfl (by decide +kernel) rfl rfl (Nat.le_of_ble_eq_true rfl) dX5_takesTailor_40 (fun H locs hP hD hS => ?_)
        have hP : va_P D vwCl (w5 cI cB hM (zs M_4 6 (fun _ => (M_4 6 0) + 1))) H := hP
        have hD : va_D A (w5 cI cB hM (zs M_4 6 (fun _ => (M_4 6 0) + 1))) := hD
        rw [← e_M_5] at hP hD
        refine lv_iconst (v := 1) hx hb dX5_takesTailor_43 (by decide) ?_
        cases hf
        exact zretB hx hb hr hlocks rfl hK hP hD hS dX5_takesTailor_44
      · replace hf := zif c_3 hf
        refine lv_iconst (v := 0) hx hb dX5_takesTailor_21 (by decide) ?_
        cases hf
        exact zretB hx hb hr hlocks rfl hK hP hD hS dX5_takesTailor_22
def f_X5_takesPart (M : zMm) (a1 : Int32) (a2 : Int32) (a3 : Int32) : Option (Int32 × zMm) := if (7 : Int32) ≤ (M 7 0) then some ((0 : Int32), M) else zb1 (f_X5_hasTailor M a1) (fun (r2 : Int32) => if r2 = 0 then some ((0 : Int32), M) else if a2 < 10 then some ((0 : Int32), M) else if (199 : Int32) < a2 then some ((0 : Int32), M) else if a3 ≤ 99 then zw 7 M 1 (M 7 0) a1 (fun M_8 => zw 7 M_8 2 (M_8 7 0) a2 (fun M_9 => zw 7 M_9 3 (M_9 7 0) a3 (fun M_10 => zv (zs M_10 7 (fun _ => (M_10 7 0) + 1)) (fun (M_11 : zMm) => some ((1 : Int32), M_11))))) else some ((0 : Int32), M))
abbrev ww_X5_takesPart : List Cond := Cond.code yX5_takesPart cX5_takesPart 4 (some .boolean) :: wG
theorem q_X5_takesPart : yX5_takesPart.cls = RX5 ∧ yX5_takesPart.cls ≠ "java/lang/invoke/MethodHandle" ∧ yX5_takesPart.cls ≠ "java/lang/invoke/VarHandle" ∧ (parseMethodDescriptor yX5_takesPart.desc).map (fun d => d.parameters.length) = some 3 := by decide +kernel
set_option maxHeartbeats 4000000 in
set_option maxRecDepth 100000 in
theorem c_X5_takesPart (l : Launch) (D : va_G) (cI cB : ClassId) (hM : Nat → Nat) (M : zMm) (a1 : Int32) (a2 : Int32) (a3 : Int32) (r0 : Int32) (M0 : zMm) (hf : f_X5_takesPart M a1 a2 a3 = some (r0, M0)) : zMi l yX5_takesPart ww_X5_takesPart ({ frames := 1, cells := 0, slots := 0, locals := 21 } : Room) D cI cB [.ref (hM 0), .int a1, .int a2, .int a3] (w5 cI cB hM M) r0 (w5 cI cB hM M0) := by
  refine zofI (cc := cX5_takesPart) (maxL := 4) (ret := (some .boolean)) (by decide +kernel) rfl (Nat.le_of_ble_eq_true rfl) ?_
  intro p e s m below meth c A ls hx hb hml hr hown hts hlocks hK hP hD hS hA hl
  have hl : lv_has ls 4 [(0, .ref (hM 0)), (1, .int a1), (2, .int a2), (3, .int a3)] := hl
  have hown : s.vm.findClass RX5 = some m.cls := hown
  have hG : ∀ w ∈ wG, w ∈ ww_X5_takesPart := fun w h => List.mem_cons_of_mem _ h
  have hi5 : ∀ w ∈ wsX50, w ∈ ww_X5_takesPart := fun w h => List.mem_cons_of_mem _ (z_inX5 w h)
  unfold f_X5_takesPart at hf
  refine lv_aload_n hx hb dX5_takesPart_0 rfl (lv_at hl 0 rfl) ?_
  refine va_get (D := D) (ci := 5) (v := .int (M 7 0)) (C := RX5) (T := TX5) (N := 12) hx hb hts hi5 hown hK hP 0 rfl rfl 7 (Nat.le_of_ble_eq_true rfl) (hts _ (List.mem_cons_of_mem _ wd_194)) (fun _ h9 => h9) rfl dX5_takesPart_1 ?_
  refine lv_bipush (v := 7) hx hb dX5_takesPart_4 (by decide) ?_
  refine lv_icmp_ge (tgt := 36) hx hb dX5_takesPart_6 (by decide) (fun c_1 => ?_) (fun c_1 => ?_)
  · replace hf := zit c_1 hf
    refine lv_iconst (v := 0) hx hb dX5_takesPart_36 (by decide) ?_
    cases hf
    exact zretB hx hb hr hlocks rfl hK hP hD hS dX5_takesPart_37
  · replace hf := zif c_1 hf
    refine lv_aload_n hx hb dX5_takesPart_9 rfl (lv_at hl 0 rfl) ?_
    refine lv_iload_n hx hb dX5_takesPart_10 rfl (lv_at hl 1 rfl) ?_
    obtain ⟨r2, hq3, hf⟩ := zb1_some hf
    refine zcallVi (ws2 := (w5 cI cB hM M)) (rest := []) ⟨hx, hb, hml, hown, hts⟩ (c_X5_hasTailor l D cI cB hM M a1 r2 hq3) (cwV 1 hts (z_gV hG wd_319 wd_320 wd_321 wd_10 wd_322) rfl rfl rfl q_X5_hasTailor ⟨Nat.le_of_ble_eq_true rfl, Nat.le_of_ble_eq_true rfl⟩) hK hP hD hS hA 5 rfl rfl rfl [0] [1, 2, 3, 4, 5, 6] rfl rfl rfl rfl rfl rfl rfl hl.1 (Nat.le_of_ble_eq_true rfl) dX5_takesPart_11 ⟨Nat.zero_le _, Nat.zero_le _⟩ rfl (fun H locs hP hD hS => ?_)
    refine lv_if_eq (tgt := 36) hx hb dX5_takesPart_14 (by decide) (fun c_4 => ?_) (fun c_4 => ?_)
    · replace hf := zit c_4 hf
      refine lv_iconst (v := 0) hx hb dX5_takesPart_36 (by decide) ?_
      cases hf
      exact zretB hx hb hr hlocks rfl hK hP hD hS dX5_takesPart_37
    · replace hf := zif c_4 hf
      refine lv_iload_n hx hb dX5_takesPart_17 rfl (lv_at hl 2 rfl) ?_
      refine lv_bipush (v := 10) hx hb dX5_takesPart_18 (by decide) ?_
      refine lv_icmp_lt (tgt := 36) hx hb dX5_takesPart_20 (by decide) (fun c_5 => ?_) (fun c_5 => ?_)
      · replace hf := zit c_5 hf
        refine lv_iconst (v := 0) hx hb dX5_takesPart_36 (by decide) ?_
        cases hf
        exact zretB hx hb hr hlocks rfl hK hP hD hS dX5_takesPart_37
      · replace hf := zif c_5 hf
        refine lv_iload_n hx hb dX5_takesPart_23 rfl (lv_at hl 2 rfl) ?_
        refine lv_sipush (v := 199) hx hb dX5_takesPart_24 (by decide) ?_
        refine lv_icmp_gt (tgt := 36) hx hb dX5_takesPart_27 (by decide) (fun c_6 => ?_) (fun c_6 => ?_)
        · replace hf := zit c_6 hf
          refine lv_iconst (v := 0) hx hb dX5_takesPart_36 (by decide) ?_
          cases hf
          exact zretB hx hb hr hlocks rfl hK hP hD hS dX5_takesPart_37
        · replace hf := zif c_6 hf
          refine lv_iload_n hx hb dX5_takesPart_30 rfl (lv_at hl 3 rfl) ?_
          refine lv_bipush (v := 99) hx hb dX5_takesPart_31 (by decide) ?_
          refine lv_icmp_le (tgt := 38) hx hb dX5_takesPart_33 (by decide) (fun c_7 => ?_) (fun c_7 => ?_)
          · replace hf := zit c_7 hf
            refine lv_aload_n hx hb dX5_takesPart_38 rfl (lv_at hl 0 rfl) ?_
            refine va_get (D := D) (ci := 5) (v := .ref (hM 2)) (C := RX5) (T := TX5) (N := 12) hx hb hts hi5 hown hK hP 0 rfl rfl 1 (Nat.le_of_ble_eq_true rfl) (hts _ (List.mem_cons_of_mem _ wd_179)) (fun _ h9 => h9) rfl dX5_takesPart_39 ?_
            refine lv_aload_n hx hb dX5_takesPart_42 rfl (lv_at hl 0 rfl) ?_
            refine va_get (D := D) (ci := 5) (v := .int (M 7 0)) (C := RX5) (T := TX5) (N := 12) hx hb hts hi5 hown hK hP 0 rfl rfl 7 (Nat.le_of_ble_eq_true rfl) (hts _ (List.mem_cons_of_mem _ wd_194)) (fun _ h9 => h9) rfl dX5_takesPart_43 ?_
            refine lv_iload_n hx hb dX5_takesPart_46 rfl (lv_at hl 1 rfl) ?_
            obtain ⟨i_M_8, M_8, e_M_8, hf⟩ := zw_some hf
            refine va_iast (n := 7) (f := M 1) (cA := cI) hx hb hK hP hD hS 2 0 rfl rfl i_M_8 dX5_takesPart_47 (fun H locs hP hD hS => ?_)
            have hP : va_P D vwCl (w5 cI cB hM (zs M 1 (upd (M 1) (M 7 0).toNatClampNeg a1))) H := hP
            have hD : va_D A (w5 cI cB hM (zs M 1 (upd (M 1) (M 7 0).toNatClampNeg a1))) := hD
            rw [← e_M_8] at hP hD
            refine lv_aload_n hx hb dX5_takesPart_48 rfl (lv_at hl 0 rfl) ?_
            refine va_get (D := D) (ci := 5) (v := .ref (hM 3)) (C := RX5) (T := TX5) (N := 12) hx hb hts hi5 hown hK hP 0 rfl rfl 2 (Nat.le_of_ble_eq_true rfl) (hts _ (List.mem_cons_of_mem _ wd_181)) (fun _ h9 => h9) rfl dX5_takesPart_49 ?_
            refine lv_aload_n hx hb dX5_takesPart_52 rfl (lv_at hl 0 rfl) ?_
            refine va_get (D := D) (ci := 5) (v := .int (M_8 7 0)) (C := RX5) (T := TX5) (N := 12) hx hb hts hi5 hown hK hP 0 rfl rfl 7 (Nat.le_of_ble_eq_true rfl) (hts _ (List.mem_cons_of_mem _ wd_194)) (fun _ h9 => h9) rfl dX5_takesPart_53 ?_
            refine lv_iload_n hx hb dX5_takesPart_56 rfl (lv_at hl 2 rfl) ?_
            obtain ⟨i_M_9, M_9, e_M_9, hf⟩ := zw_some hf
            refine va_iast (n := 7) (f := M_8 2) (cA := cI) hx hb hK hP hD hS 3 0 rfl rfl i_M_9 dX5_takesPart_57 (fun H locs hP hD hS => ?_)
            have hP : va_P D vwCl (w5 cI cB hM (zs M_8 2 (upd (M_8 2) (M_8 7 0).toNatClampNeg a2))) H := hP
            have hD : va_D A (w5 cI cB hM (zs M_8 2 (upd (M_8 2) (M_8 7 0).toNatClampNeg a2))) := hD
            rw [← e_M_9] at hP hD
            refine lv_aload_n hx hb dX5_takesPart_58 rfl (lv_at hl 0 rfl) ?_
            refine va_get (D := D) (ci := 5) (v := .ref (hM 4)) (C := RX5) (T := TX5) (N := 12) hx hb hts hi5 hown hK hP 0 rfl rfl 3 (Nat.le_of_ble_eq_true rfl) (hts _ (List.mem_cons_of_mem _ wd_183)) (fun _ h9 => h9) rfl dX5_takesPart_59 ?_
            refine lv_aload_n hx hb dX5_takesPart_62 rfl (lv_at hl 0 rfl) ?_
            refine va_get (D := D) (ci := 5) (v := .int (M_9 7 0)) (C := RX5) (T := TX5) (N := 12) hx hb hts hi5 hown hK hP 0 rfl rfl 7 (Nat.le_of_ble_eq_true rfl) (hts _ (List.mem_cons_of_mem _ wd_194)) (fun _ h9 => h9) rfl dX5_takesPart_63 ?_
            refine lv_iload_n hx hb dX5_takesPart_66 rfl (lv_at hl 3 rfl) ?_
            obtain ⟨i_M_10, M_10, e_M_10, hf⟩ := zw_some hf
            refine va_iast (n := 7) (f := M_9 3) (cA := cI) hx hb hK hP hD hS 4 0 rfl rfl i_M_10 dX5_takesPart_67 (fun H locs hP hD hS => ?_)
            have hP : va_P D vwCl (w5 cI cB hM (zs M_9 3 (upd (M_9 3) (M_9 7 0).toNatClampNeg a3))) H := hP
            have hD : va_D A (w5 cI cB hM (zs M_9 3 (upd (M_9 3) (M_9 7 0).toNatClampNeg a3))) := hD
            rw [← e_M_10] at hP hD
            refine lv_aload_n hx hb dX5_takesPart_68 rfl (lv_at hl 0 rfl) ?_
            refine lv_dup hx hb dX5_takesPart_69 rfl ?_
            refine va_get (D := D) (ci := 5) (v := .int (M_10 7 0)) (C := RX5) (T := TX5) (N := 12) hx hb hts hi5 hown hK hP 0 rfl rfl 7 (Nat.le_of_ble_eq_true rfl) (hts _ (List.mem_cons_of_mem _ wd_194)) (fun _ h9 => h9) rfl dX5_takesPart_70 ?_
            refine lv_iconst (v := 1) hx hb dX5_takesPart_73 (by decide) ?_
            refine lv_iadd hx hb dX5_takesPart_74 ?_
            obtain ⟨M_11, e_M_11, hf⟩ := zv_some hf
            refine va_put (D := D) (ci := 5) (v := .int ((M_10 7 0) + 1)) (ty := .int) (C := RX5) (T := TX5) (N := 12) hx hb hts hi5 tyX5 tyX5_ok nmX5 hown hK hP hD hS 0 rfl rfl 7 (Nat.le_of_ble_eq_true rfl) (hts _ (List.mem_cons_of_mem _ wd_194)) (fun _ h9 => h9) rfl (by decide +kernel) rfl rfl (Nat.le_of_ble_eq_true rfl) dX5_takesPart_75 (fun H locs hP hD hS => ?_)
            have hP : va_P D vwCl (w5 cI cB hM (zs M_10 7 (fun _ => (M_10 7 0) + 1))) H := hP
            have hD : va_D A (w5 cI cB hM (zs M_10 7 (fun _ => (M_10 7 0) + 1))) := hD
            rw [← e_M_11] at hP hD
            refine lv_iconst (v := 1) hx hb dX5_takesPart_78 (by decide) ?_
            cases hf
            exact zretB hx hb hr hlocks rfl hK hP hD hS dX5_takesPart_79
          · replace hf := zif c_7 hf
            refine lv_iconst (v := 0) hx hb dX5_takesPart_36 (by decide) ?_
            cases hf
            exact zretB hx hb hr hlocks rfl hK hP hD hS dX5_takesPart_37
def f_X5_takesSeam (M : zMm) (a1 : Int32) (a2 : Int32) : Option (Int32 × zMm) := if (10 : Int32) ≤ (M 8 0) then some ((0 : Int32), M) else zb1 (f_X5_hasPart M a1) (fun (r2 : Int32) => if r2 = 0 then some ((0 : Int32), M) else zb1 (f_X5_hasPart M a2) (fun (r5 : Int32) => if r5 = 0 then some ((0 : Int32), M) else if a1 = a2 then some ((0 : Int32), M) else zw 10 M 4 (M 8 0) a1 (fun M_9 => zw 10 M_9 5 (M_9 8 0) a2 (fun M_10 => zv (zs M_10 8 (fun _ => (M_10 8 0) + 1)) (fun (M_11 : zMm) => some ((1 : Int32), M_11))))))
abbrev ww_X5_takesSeam : List Cond := Cond.code yX5_takesSeam cX5_takesSeam 3 (some .boolean) :: wG
theorem q_X5_takesSeam : yX5_takesSeam.cls = RX5 ∧ yX5_takesSeam.cls ≠ "java/lang/invoke/MethodHandle" ∧ yX5_takesSeam.cls ≠ "java/lang/invoke/VarHandle" ∧ (parseMethodDescriptor yX5_takesSeam.desc).map (fun d => d.parameters.length) = some 2 := by decide +kernel
set_option maxHeartbeats 4000000 in
set_option maxRecDepth 100000 in
theorem c_X5_takesSeam (l : Launch) (D : va_G) (cI cB : ClassId) (hM : Nat → Nat) (M : zMm) (a1 : Int32) (a2 : Int32) (r0 : Int32) (M0 : zMm) (hf : f_X5_takesSeam M a1 a2 = some (r0, M0)) : zMi l yX5_takesSeam ww_X5_takesSeam ({ frames := 1, cells := 0, slots := 0, locals := 21 } : Room) D cI cB [.ref (hM 0), .int a1, .int a2] (w5 cI cB hM M) r0 (w5 cI cB hM M0) := by
  refine zofI (cc := cX5_takesSeam) (maxL := 3) (ret := (some .boolean)) (by decide +kernel) rfl (Nat.le_of_ble_eq_true rfl) ?_
  intro p e s m below meth c A ls hx hb hml hr hown hts hlocks hK hP hD hS hA hl
  have hl : lv_has ls 3 [(0, .ref (hM 0)), (1, .int a1), (2, .int a2)] := hl
  have hown : s.vm.findClass RX5 = some m.cls := hown
  have hG : ∀ w ∈ wG, w ∈ ww_X5_takesSeam := fun w h => List.mem_cons_of_mem _ h
  have hi5 : ∀ w ∈ wsX50, w ∈ ww_X5_takesSeam := fun w h => List.mem_cons_of_mem _ (z_inX5 w h)
  unfold f_X5_takesSeam at hf
  refine lv_aload_n hx hb dX5_takesSeam_0 rfl (lv_at hl 0 rfl) ?_
  refine va_get (D := D) (ci := 5) (v := .int (M 8 0)) (C := RX5) (T := TX5) (N := 12) hx hb hts hi5 hown hK hP 0 rfl rfl 8 (Nat.le_of_ble_eq_true rfl) (hts _ (List.mem_cons_of_mem _ wd_197)) (fun _ h9 => h9) rfl dX5_takesSeam_1 ?_
  refine lv_bipush (v := 10) hx hb dX5_takesSeam_4 (by decide) ?_
  refine lv_icmp_ge (tgt := 30) hx hb dX5_takesSeam_6 (by decide) (fun c_1 => ?_) (fun c_1 => ?_)
  · replace hf := zit c_1 hf
    refine lv_iconst (v := 0) hx hb dX5_takesSeam_30 (by decide) ?_
    cases hf
    exact zretB hx hb hr hlocks rfl hK hP hD hS dX5_takesSeam_31
  · replace hf := zif c_1 hf
    refine lv_aload_n hx hb dX5_takesSeam_9 rfl (lv_at hl 0 rfl) ?_
    refine lv_iload_n hx hb dX5_takesSeam_10 rfl (lv_at hl 1 rfl) ?_
    obtain ⟨r2, hq3, hf⟩ := zb1_some hf
    refine zcallVi (ws2 := (w5 cI cB hM M)) (rest := []) ⟨hx, hb, hml, hown, hts⟩ (c_X5_hasPart l D cI cB hM M a1 r2 hq3) (cwV 1 hts (z_gV hG wd_327 wd_328 wd_329 wd_10 wd_330) rfl rfl rfl q_X5_hasPart ⟨Nat.le_of_ble_eq_true rfl, Nat.le_of_ble_eq_true rfl⟩) hK hP hD hS hA 5 rfl rfl rfl [0] [1, 2, 3, 4, 5, 6] rfl rfl rfl rfl rfl rfl rfl hl.1 (Nat.le_of_ble_eq_true rfl) dX5_takesSeam_11 ⟨Nat.zero_le _, Nat.zero_le _⟩ rfl (fun H locs hP hD hS => ?_)
    refine lv_if_eq (tgt := 30) hx hb dX5_takesSeam_14 (by decide) (fun c_4 => ?_) (fun c_4 => ?_)
    · replace hf := zit c_4 hf
      refine lv_iconst (v := 0) hx hb dX5_takesSeam_30 (by decide) ?_
      cases hf
      exact zretB hx hb hr hlocks rfl hK hP hD hS dX5_takesSeam_31
    · replace hf := zif c_4 hf
      refine lv_aload_n hx hb dX5_takesSeam_17 rfl (lv_at hl 0 rfl) ?_
      refine lv_iload_n hx hb dX5_takesSeam_18 rfl (lv_at hl 2 rfl) ?_
      obtain ⟨r5, hq6, hf⟩ := zb1_some hf
      refine zcallVi (ws2 := (w5 cI cB hM M)) (rest := []) ⟨hx, hb, hml, hown, hts⟩ (c_X5_hasPart l D cI cB hM M a2 r5 hq6) (cwV 1 hts (z_gV hG wd_327 wd_328 wd_329 wd_10 wd_330) rfl rfl rfl q_X5_hasPart ⟨Nat.le_of_ble_eq_true rfl, Nat.le_of_ble_eq_true rfl⟩) hK hP hD hS hA 5 rfl rfl rfl [0] [1, 2, 3, 4, 5, 6] rfl rfl rfl rfl rfl rfl rfl hl.1 (Nat.le_of_ble_eq_true rfl) dX5_takesSeam_19 ⟨Nat.zero_le _, Nat.zero_le _⟩ rfl (fun H locs hP hD hS => ?_)
      refine lv_if_eq (tgt := 30) hx hb dX5_takesSeam_22 (by decide) (fun c_7 => ?_) (fun c_7 => ?_)
      · replace hf := zit c_7 hf
        refine lv_iconst (v := 0) hx hb dX5_takesSeam_30 (by decide) ?_
        cases hf
        exact zretB hx hb hr hlocks rfl hK hP hD hS dX5_takesSeam_31
      · replace hf := zif c_7 hf
        refine lv_iload_n hx hb dX5_takesSeam_25 rfl (lv_at hl 1 rfl) ?_
        refine lv_iload_n hx hb dX5_takesSeam_26 rfl (lv_at hl 2 rfl) ?_
        refine lv_icmp_ne (tgt := 32) hx hb dX5_takesSeam_27 (by decide) (fun c_8 => ?_) (fun c_8 => ?_)
        · replace hf := zif c_8 hf
          refine lv_aload_n hx hb dX5_takesSeam_32 rfl (lv_at hl 0 rfl) ?_
          refine va_get (D := D) (ci := 5) (v := .ref (hM 5)) (C := RX5) (T := TX5) (N := 12) hx hb hts hi5 hown hK hP 0 rfl rfl 4 (Nat.le_of_ble_eq_true rfl) (hts _ (List.mem_cons_of_mem _ wd_185)) (fun _ h9 => h9) rfl dX5_takesSeam_33 ?_
          refine lv_aload_n hx hb dX5_takesSeam_36 rfl (lv_at hl 0 rfl) ?_
          refine va_get (D := D) (ci := 5) (v := .int (M 8 0)) (C := RX5) (T := TX5) (N := 12) hx hb hts hi5 hown hK hP 0 rfl rfl 8 (Nat.le_of_ble_eq_true rfl) (hts _ (List.mem_cons_of_mem _ wd_197)) (fun _ h9 => h9) rfl dX5_takesSeam_37 ?_
          refine lv_iload_n hx hb dX5_takesSeam_40 rfl (lv_at hl 1 rfl) ?_
          obtain ⟨i_M_9, M_9, e_M_9, hf⟩ := zw_some hf
          refine va_iast (n := 10) (f := M 4) (cA := cI) hx hb hK hP hD hS 5 0 rfl rfl i_M_9 dX5_takesSeam_41 (fun H locs hP hD hS => ?_)
          have hP : va_P D vwCl (w5 cI cB hM (zs M 4 (upd (M 4) (M 8 0).toNatClampNeg a1))) H := hP
          have hD : va_D A (w5 cI cB hM (zs M 4 (upd (M 4) (M 8 0).toNatClampNeg a1))) := hD
          rw [← e_M_9] at hP hD
          refine lv_aload_n hx hb dX5_takesSeam_42 rfl (lv_at hl 0 rfl) ?_
          refine va_get (D := D) (ci := 5) (v := .ref (hM 6)) (C := RX5) (T := TX5) (N := 12) hx hb hts hi5 hown hK hP 0 rfl rfl 5 (Nat.le_of_ble_eq_true rfl) (hts _ (List.mem_cons_of_mem _ wd_188)) (fun _ h9 => h9) rfl dX5_takesSeam_43 ?_
          refine lv_aload_n hx hb dX5_takesSeam_46 rfl (lv_at hl 0 rfl) ?_
          refine va_get (D := D) (ci := 5) (v := .int (M_9 8 0)) (C := RX5) (T := TX5) (N := 12) hx hb hts hi5 hown hK hP 0 rfl rfl 8 (Nat.le_of_ble_eq_true rfl) (hts _ (List.mem_cons_of_mem _ wd_197)) (fun _ h9 => h9) rfl dX5_takesSeam_47 ?_
          refine lv_iload_n hx hb dX5_takesSeam_50 rfl (lv_at hl 2 rfl) ?_
          obtain ⟨i_M_10, M_10, e_M_10, hf⟩ := zw_some hf
          refine va_iast (n := 10) (f := M_9 5) (cA := cI) hx hb hK hP hD hS 6 0 rfl rfl i_M_10 dX5_takesSeam_51 (fun H locs hP hD hS => ?_)
          have hP : va_P D vwCl (w5 cI cB hM (zs M_9 5 (upd (M_9 5) (M_9 8 0).toNatClampNeg a2))) H := hP
          have hD : va_D A (w5 cI cB hM (zs M_9 5 (upd (M_9 5) (M_9 8 0).toNatClampNeg a2))) := hD
          rw [← e_M_10] at hP hD
          refine lv_aload_n hx hb dX5_takesSeam_52 rfl (lv_at hl 0 rfl) ?_
          refine lv_dup hx hb dX5_takesSeam_53 rfl ?_
          refine va_get (D := D) (ci := 5) (v := .int (M_10 8 0)) (C := RX5) (T := TX5) (N := 12) hx hb hts hi5 hown hK hP 0 rfl rfl 8 (Nat.le_of_ble_eq_true rfl) (hts _ (List.mem_cons_of_mem _ wd_197)) (fun _ h9 => h9) rfl dX5_takesSeam_54 ?_
          refine lv_iconst (v := 1) hx hb dX5_takesSeam_57 (by decide) ?_
          refine lv_iadd hx hb dX5_takesSeam_58 ?_
          obtain ⟨M_11, e_M_11, hf⟩ := zv_some hf
          refine va_put (D := D) (ci := 5) (v := .int ((M_10 8 0) + 1)) (ty := .int) (C := RX5) (T := TX5) (N := 12) hx hb hts hi5 tyX5 tyX5_ok nmX5 hown hK hP hD hS 0 rfl rfl 8 (Nat.le_of_ble_eq_true rfl) (hts _ (List.mem_cons_of_mem _ wd_197)) (fun _ h9 => h9) rfl (by decide +kernel) rfl rfl (Nat.le_of_ble_eq_true rfl) dX5_takesSeam_59 (fun H locs hP hD hS => ?_)
          have hP : va_P D vwCl (w5 cI cB hM (zs M_10 8 (fun _ => (M_10 8 0) + 1))) H := hP
          have hD : va_D A (w5 cI cB hM (zs M_10 8 (fun _ => (M_10 8 0) + 1))) := hD
          rw [← e_M_11] at hP hD
          refine lv_iconst (v := 1) hx hb dX5_takesSeam_62 (by decide) ?_
          cases hf
          exact zretB hx hb hr hlocks rfl hK hP hD hS dX5_takesSeam_63
        · replace hf := zit c_8 hf
          refine lv_iconst (v := 0) hx hb dX5_takesSeam_30 (by decide) ?_
          cases hf
          exact zretB hx hb hr hlocks rfl hK hP hD hS dX5_takesSeam_31
def f_X5_takesGap (M : zMm) (a1 : Int32) : Option (Int32 × zMm) := if a1 ≤ 20 then zv (zs M 9 (fun _ => a1)) (fun (M_2 : zMm) => some ((1 : Int32), M_2)) else some ((0 : Int32), M)
abbrev ww_X5_takesGap : List Cond := Cond.code yX5_takesGap cX5_takesGap 2 (some .boolean) :: wG
theorem q_X5_takesGap : yX5_takesGap.cls = RX5 ∧ yX5_takesGap.cls ≠ "java/lang/invoke/MethodHandle" ∧ yX5_takesGap.cls ≠ "java/lang/invoke/VarHandle" ∧ (parseMethodDescriptor yX5_takesGap.desc).map (fun d => d.parameters.length) = some 1 := by decide +kernel
set_option maxHeartbeats 4000000 in
set_option maxRecDepth 100000 in
theorem c_X5_takesGap (l : Launch) (D : va_G) (cI cB : ClassId) (hM : Nat → Nat) (M : zMm) (a1 : Int32) (r0 : Int32) (M0 : zMm) (hf : f_X5_takesGap M a1 = some (r0, M0)) : zMi l yX5_takesGap ww_X5_takesGap ({ frames := 0, cells := 0, slots := 0, locals := 0 } : Room) D cI cB [.ref (hM 0), .int a1] (w5 cI cB hM M) r0 (w5 cI cB hM M0) := by
  refine zofI (cc := cX5_takesGap) (maxL := 2) (ret := (some .boolean)) (by decide +kernel) rfl (Nat.le_of_ble_eq_true rfl) ?_
  intro p e s m below meth c A ls hx hb hml hr hown hts hlocks hK hP hD hS hA hl
  have hl : lv_has ls 2 [(0, .ref (hM 0)), (1, .int a1)] := hl
  have hown : s.vm.findClass RX5 = some m.cls := hown
  have hG : ∀ w ∈ wG, w ∈ ww_X5_takesGap := fun w h => List.mem_cons_of_mem _ h
  have hi5 : ∀ w ∈ wsX50, w ∈ ww_X5_takesGap := fun w h => List.mem_cons_of_mem _ (z_inX5 w h)
  unfold f_X5_takesGap at hf
  refine lv_iload_n hx hb dX5_takesGap_0 rfl (lv_at hl 1 rfl) ?_
  refine lv_bipush (v := 20) hx hb dX5_takesGap_1 (by decide) ?_
  refine lv_icmp_le (tgt := 8) hx hb dX5_takesGap_3 (by decide) (fun c_1 => ?_) (fun c_1 => ?_)
  · replace hf := zit c_1 hf
    refine lv_aload_n hx hb dX5_takesGap_8 rfl (lv_at hl 0 rfl) ?_
    refine lv_iload_n hx hb dX5_takesGap_9 rfl (lv_at hl 1 rfl) ?_
    obtain ⟨M_2, e_M_2, hf⟩ := zv_some hf
    refine va_put (D := D) (ci := 5) (v := .int a1) (ty := .int) (C := RX5) (T := TX5) (N := 12) hx hb hts hi5 tyX5 tyX5_ok nmX5 hown hK hP hD hS 0 rfl rfl 9 (Nat.le_of_ble_eq_true rfl) (hts _ (List.mem_cons_of_mem _ wd_200)) (fun _ h9 => h9) rfl (by decide +kernel) rfl rfl (Nat.le_of_ble_eq_true rfl) dX5_takesGap_10 (fun H locs hP hD hS => ?_)
    have hP : va_P D vwCl (w5 cI cB hM (zs M 9 (fun _ => a1))) H := hP
    have hD : va_D A (w5 cI cB hM (zs M 9 (fun _ => a1))) := hD
    rw [← e_M_2] at hP hD
    refine lv_iconst (v := 1) hx hb dX5_takesGap_13 (by decide) ?_
    cases hf
    exact zretB hx hb hr hlocks rfl hK hP hD hS dX5_takesGap_14
  · replace hf := zif c_1 hf
    refine lv_iconst (v := 0) hx hb dX5_takesGap_6 (by decide) ?_
    cases hf
    exact zretB hx hb hr hlocks rfl hK hP hD hS dX5_takesGap_7
def f_X5_takesBoy (M : zMm) (a1 : Int32) : Option (Int32 × zMm) := if a1 < 1000 then zv (zs M 10 (fun _ => a1)) (fun (M_2 : zMm) => some ((1 : Int32), M_2)) else some ((0 : Int32), M)
abbrev ww_X5_takesBoy : List Cond := Cond.code yX5_takesBoy cX5_takesBoy 2 (some .boolean) :: wG
theorem q_X5_takesBoy : yX5_takesBoy.cls = RX5 ∧ yX5_takesBoy.cls ≠ "java/lang/invoke/MethodHandle" ∧ yX5_takesBoy.cls ≠ "java/lang/invoke/VarHandle" ∧ (parseMethodDescriptor yX5_takesBoy.desc).map (fun d => d.parameters.length) = some 1 := by decide +kernel
set_option maxHeartbeats 4000000 in
set_option maxRecDepth 100000 in
theorem c_X5_takesBoy (l : Launch) (D : va_G) (cI cB : ClassId) (hM : Nat → Nat) (M : zMm) (a1 : Int32) (r0 : Int32) (M0 : zMm) (hf : f_X5_takesBoy M a1 = some (r0, M0)) : zMi l yX5_takesBoy ww_X5_takesBoy ({ frames := 0, cells := 0, slots := 0, locals := 0 } : Room) D cI cB [.ref (hM 0), .int a1] (w5 cI cB hM M) r0 (w5 cI cB hM M0) := by
  refine zofI (cc := cX5_takesBoy) (maxL := 2) (ret := (some .boolean)) (by decide +kernel) rfl (Nat.le_of_ble_eq_true rfl) ?_
  intro p e s m below meth c A ls hx hb hml hr hown hts hlocks hK hP hD hS hA hl
  have hl : lv_has ls 2 [(0, .ref (hM 0)), (1, .int a1)] := hl
  have hown : s.vm.findClass RX5 = some m.cls := hown
  have hG : ∀ w ∈ wG, w ∈ ww_X5_takesBoy := fun w h => List.mem_cons_of_mem _ h
  have hi5 : ∀ w ∈ wsX50, w ∈ ww_X5_takesBoy := fun w h => List.mem_cons_of_mem _ (z_inX5 w h)
  unfold f_X5_takesBoy at hf
  refine lv_iload_n hx hb dX5_takesBoy_0 rfl (lv_at hl 1 rfl) ?_
  refine lv_sipush (v := 1000) hx hb dX5_takesBoy_1 (by decide) ?_
  refine lv_icmp_lt (tgt := 9) hx hb dX5_takesBoy_4 (by decide) (fun c_1 => ?_) (fun c_1 => ?_)
  · replace hf := zit c_1 hf
    refine lv_aload_n hx hb dX5_takesBoy_9 rfl (lv_at hl 0 rfl) ?_
    refine lv_iload_n hx hb dX5_takesBoy_10 rfl (lv_at hl 1 rfl) ?_
    obtain ⟨M_2, e_M_2, hf⟩ := zv_some hf
    refine va_put (D := D) (ci := 5) (v := .int a1) (ty := .int) (C := RX5) (T := TX5) (N := 12) hx hb hts hi5 tyX5 tyX5_ok nmX5 hown hK hP hD hS 0 rfl rfl 10 (Nat.le_of_ble_eq_true rfl) (hts _ (List.mem_cons_of_mem _ wd_201)) (fun _ h9 => h9) rfl (by decide +kernel) rfl rfl (Nat.le_of_ble_eq_true rfl) dX5_takesBoy_11 (fun H locs hP hD hS => ?_)
    have hP : va_P D vwCl (w5 cI cB hM (zs M 10 (fun _ => a1))) H := hP
    have hD : va_D A (w5 cI cB hM (zs M 10 (fun _ => a1))) := hD
    rw [← e_M_2] at hP hD
    refine lv_iconst (v := 1) hx hb dX5_takesBoy_14 (by decide) ?_
    cases hf
    exact zretB hx hb hr hlocks rfl hK hP hD hS dX5_takesBoy_15
  · replace hf := zif c_1 hf
    refine lv_iconst (v := 0) hx hb dX5_takesBoy_7 (by decide) ?_
    cases hf
    exact zretB hx hb hr hlocks rfl hK hP hD hS dX5_takesBoy_8
def f_X5_takesBolt (M : zMm) (a1 : Int32) : Option (Int32 × zMm) := if (1 : Int32) ≤ a1 then zv (zs M 11 (fun _ => a1)) (fun (M_2 : zMm) => some ((1 : Int32), M_2)) else some ((0 : Int32), M)
abbrev ww_X5_takesBolt : List Cond := Cond.code yX5_takesBolt cX5_takesBolt 2 (some .boolean) :: wG
theorem q_X5_takesBolt : yX5_takesBolt.cls = RX5 ∧ yX5_takesBolt.cls ≠ "java/lang/invoke/MethodHandle" ∧ yX5_takesBolt.cls ≠ "java/lang/invoke/VarHandle" ∧ (parseMethodDescriptor yX5_takesBolt.desc).map (fun d => d.parameters.length) = some 1 := by decide +kernel
set_option maxHeartbeats 4000000 in
set_option maxRecDepth 100000 in
theorem c_X5_takesBolt (l : Launch) (D : va_G) (cI cB : ClassId) (hM : Nat → Nat) (M : zMm) (a1 : Int32) (r0 : Int32) (M0 : zMm) (hf : f_X5_takesBolt M a1 = some (r0, M0)) : zMi l yX5_takesBolt ww_X5_takesBolt ({ frames := 0, cells := 0, slots := 0, locals := 0 } : Room) D cI cB [.ref (hM 0), .int a1] (w5 cI cB hM M) r0 (w5 cI cB hM M0) := by
  refine zofI (cc := cX5_takesBolt) (maxL := 2) (ret := (some .boolean)) (by decide +kernel) rfl (Nat.le_of_ble_eq_true rfl) ?_
  intro p e s m below meth c A ls hx hb hml hr hown hts hlocks hK hP hD hS hA hl
  have hl : lv_has ls 2 [(0, .ref (hM 0)), (1, .int a1)] := hl
  have hown : s.vm.findClass RX5 = some m.cls := hown
  have hG : ∀ w ∈ wG, w ∈ ww_X5_takesBolt := fun w h => List.mem_cons_of_mem _ h
  have hi5 : ∀ w ∈ wsX50, w ∈ ww_X5_takesBolt := fun w h => List.mem_cons_of_mem _ (z_inX5 w h)
  unfold f_X5_takesBolt at hf
  refine lv_iload_n hx hb dX5_takesBolt_0 rfl (lv_at hl 1 rfl) ?_
  refine lv_iconst (v := 1) hx hb dX5_takesBolt_1 (by decide) ?_
  refine lv_icmp_ge (tgt := 7) hx hb dX5_takesBolt_2 (by decide) (fun c_1 => ?_) (fun c_1 => ?_)
  · replace hf := zit c_1 hf
    refine lv_aload_n hx hb dX5_takesBolt_7 rfl (lv_at hl 0 rfl) ?_
    refine lv_iload_n hx hb dX5_takesBolt_8 rfl (lv_at hl 1 rfl) ?_
    obtain ⟨M_2, e_M_2, hf⟩ := zv_some hf
    refine va_put (D := D) (ci := 5) (v := .int a1) (ty := .int) (C := RX5) (T := TX5) (N := 12) hx hb hts hi5 tyX5 tyX5_ok nmX5 hown hK hP hD hS 0 rfl rfl 11 (Nat.le_of_ble_eq_true rfl) (hts _ (List.mem_cons_of_mem _ wd_204)) (fun _ h9 => h9) rfl (by decide +kernel) rfl rfl (Nat.le_of_ble_eq_true rfl) dX5_takesBolt_9 (fun H locs hP hD hS => ?_)
    have hP : va_P D vwCl (w5 cI cB hM (zs M 11 (fun _ => a1))) H := hP
    have hD : va_D A (w5 cI cB hM (zs M 11 (fun _ => a1))) := hD
    rw [← e_M_2] at hP hD
    refine lv_iconst (v := 1) hx hb dX5_takesBolt_12 (by decide) ?_
    cases hf
    exact zretB hx hb hr hlocks rfl hK hP hD hS dX5_takesBolt_13
  · replace hf := zif c_1 hf
    refine lv_iconst (v := 0) hx hb dX5_takesBolt_5 (by decide) ?_
    cases hf
    exact zretB hx hb hr hlocks rfl hK hP hD hS dX5_takesBolt_6
def f_X5_takes (M : zMm) (P2 : zMm) (a1 : Int32) : Option (Int32 × zMm) := if a1 = 99 then zb2 (f_X5_takesBolt M (P2 0 0)) (fun (r2 : Int32) (M_3 : zMm) => zo r2 (some (r2, M_3))) else if a1 = 103 then zb2 (f_X5_takesGap M (P2 0 0)) (fun (r6 : Int32) (M_7 : zMm) => zo r6 (some (r6, M_7))) else if a1 = 112 then zb2 (f_X5_takesPart M (P2 0 0) (P2 0 1) (P2 0 2)) (fun (r10 : Int32) (M_11 : zMm) => zo r10 (some (r10, M_11))) else if a1 = 115 then zb2 (f_X5_takesSeam M (P2 0 0) (P2 0 1)) (fun (r14 : Int32) (M_15 : zMm) => zo r14 (some (r14, M_15))) else if a1 = 116 then zb2 (f_X5_takesTailor M (P2 0 0)) (fun (r18 : Int32) (M_19 : zMm) => zo r18 (some (r18, M_19))) else if a1 = 122 then zb2 (f_X5_takesBoy M (P2 0 0)) (fun (r22 : Int32) (M_23 : zMm) => zo r22 (some (r22, M_23))) else some ((0 : Int32), M)
abbrev ww_X5_takes : List Cond := Cond.code yX5_takes cX5_takes 3 (some .boolean) :: wG
theorem q_X5_takes : yX5_takes.cls = RX5 ∧ yX5_takes.cls ≠ "java/lang/invoke/MethodHandle" ∧ yX5_takes.cls ≠ "java/lang/invoke/VarHandle" ∧ (parseMethodDescriptor yX5_takes.desc).map (fun d => d.parameters.length) = some 2 := by decide +kernel
set_option maxHeartbeats 4000000 in
set_option maxRecDepth 100000 in
theorem c_X5_takes (l : Launch) (D : va_G) (cI cB : ClassId) (hM : Nat → Nat) (hP2 : Nat → Nat) (M : zMm) (P2 : zMm) (a1 : Int32) (r0 : Int32) (M0 : zMm) (hf : f_X5_takes M P2 a1 = some (r0, M0)) : zMi l yX5_takes ww_X5_takes ({ frames := 2, cells := 0, slots := 0, locals := 44 } : Room) D cI cB [.ref (hM 0), .int a1, .ref (hP2 0)] (w5 cI cB hM M ++ wA3 cI cB hP2 P2) r0 (w5 cI cB hM M0 ++ wA3 cI cB hP2 P2) := by
  refine zofI (cc := cX5_takes) (maxL := 3) (ret := (some .boolean)) (by decide +kernel) rfl (Nat.le_of_ble_eq_true rfl) ?_
  intro p e s m below meth c A ls hx hb hml hr hown hts hlocks hK hP hD hS hA hl
  have hl : lv_has ls 3 [(0, .ref (hM 0)), (1, .int a1), (2, .ref (hP2 0))] := hl
  have hown : s.vm.findClass RX5 = some m.cls := hown
  have hG : ∀ w ∈ wG, w ∈ ww_X5_takes := fun w h => List.mem_cons_of_mem _ h
  unfold f_X5_takes at hf
  refine lv_iload_n hx hb dX5_takes_0 rfl (lv_at hl 1 rfl) ?_
  by_cases c_1 : a1 = 99
  · replace hf := zit c_1 hf
    refine zt c_1.symm ?_
    refine lv_lookup (off := 108) (tgt := 109) hx hb dX5_takes_1 (by decide) (by decide) (by decide) ?_
    refine lv_aload_n hx hb dX5_takes_109 rfl (lv_at hl 0 rfl) ?_
    refine lv_aload_n hx hb dX5_takes_110 rfl (lv_at hl 2 rfl) ?_
    refine lv_iconst (v := 0) hx hb dX5_takes_111 (by decide) ?_
    refine va_iald (n := 3) (f := P2 0) (cA := cI) hx hb hK hP 7 0 rfl rfl (z_in (by decide)) dX5_takes_112 ?_
    refine z_tc (k := 0) (by decide) ?_
    obtain ⟨r2, M_3, hq4, hf⟩ := zb2_some hf
    refine zcallVi (ws2 := (w5 cI cB hM M_3 ++ wA3 cI cB hP2 P2)) (rest := []) ⟨hx, hb, hml, hown, hts⟩ (c_X5_takesBolt l D cI cB hM M (P2 0 0) r2 M_3 hq4) (cwV 1 hts (z_gV hG wd_339 wd_341 wd_s8 wd_10 wd_342) rfl rfl rfl q_X5_takesBolt ⟨Nat.le_of_ble_eq_true rfl, Nat.le_of_ble_eq_true rfl⟩) hK hP hD hS hA 5 rfl rfl rfl [0, 1, 2, 3, 4, 5, 6] [7] rfl rfl rfl (z_em ⟨rfl, trivial⟩) rfl rfl rfl hl.1 (Nat.le_of_ble_eq_true rfl) dX5_takes_113 ⟨Nat.zero_le _, Nat.zero_le _⟩ rfl (fun H locs hP hD hS => ?_)
    obtain ⟨hn, hf⟩ := zo_some hf
    cases hf
    exact zretB hx hb hr hlocks hn hK hP hD hS dX5_takes_116
  · replace hf := zif c_1 hf
    by_cases c_5 : a1 = 103
    · replace hf := zit c_5 hf
      refine zt c_5.symm ?_
      refine lv_lookup (off := 92) (tgt := 93) hx hb dX5_takes_1 (by decide) (by decide) (by decide) ?_
      refine lv_aload_n hx hb dX5_takes_93 rfl (lv_at hl 0 rfl) ?_
      refine lv_aload_n hx hb dX5_takes_94 rfl (lv_at hl 2 rfl) ?_
      refine lv_iconst (v := 0) hx hb dX5_takes_95 (by decide) ?_
      refine va_iald (n := 3) (f := P2 0) (cA := cI) hx hb hK hP 7 0 rfl rfl (z_in (by decide)) dX5_takes_96 ?_
      refine z_tc (k := 0) (by decide) ?_
      obtain ⟨r6, M_7, hq8, hf⟩ := zb2_some hf
      refine zcallVi (ws2 := (w5 cI cB hM M_7 ++ wA3 cI cB hP2 P2)) (rest := []) ⟨hx, hb, hml, hown, hts⟩ (c_X5_takesGap l D cI cB hM M (P2 0 0) r6 M_7 hq8) (cwV 1 hts (z_gV hG wd_331 wd_333 wd_s6 wd_10 wd_334) rfl rfl rfl q_X5_takesGap ⟨Nat.le_of_ble_eq_true rfl, Nat.le_of_ble_eq_true rfl⟩) hK hP hD hS hA 5 rfl rfl rfl [0, 1, 2, 3, 4, 5, 6] [7] rfl rfl rfl (z_em ⟨rfl, trivial⟩) rfl rfl rfl hl.1 (Nat.le_of_ble_eq_true rfl) dX5_takes_97 ⟨Nat.zero_le _, Nat.zero_le _⟩ rfl (fun H locs hP hD hS => ?_)
      obtain ⟨hn, hf⟩ := zo_some hf
      cases hf
      exact zretB hx hb hr hlocks hn hK hP hD hS dX5_takes_100
    · replace hf := zif c_5 hf
      by_cases c_9 : a1 = 112
      · replace hf := zit c_9 hf
        refine zt c_9.symm ?_
        refine lv_lookup (off := 67) (tgt := 68) hx hb dX5_takes_1 (by decide) (by decide) (by decide) ?_
        refine lv_aload_n hx hb dX5_takes_68 rfl (lv_at hl 0 rfl) ?_
        refine lv_aload_n hx hb dX5_takes_69 rfl (lv_at hl 2 rfl) ?_
        refine lv_iconst (v := 0) hx hb dX5_takes_70 (by decide) ?_
        refine va_iald (n := 3) (f := P2 0) (cA := cI) hx hb hK hP 7 0 rfl rfl (z_in (by decide)) dX5_takes_71 ?_
        refine z_tc (k := 0) (by decide) ?_
        refine lv_aload_n hx hb dX5_takes_72 rfl (lv_at hl 2 rfl) ?_
        refine lv_iconst (v := 1) hx hb dX5_takes_73 (by decide) ?_
        refine va_iald (n := 3) (f := P2 0) (cA := cI) hx hb hK hP 7 0 rfl rfl (z_in (by decide)) dX5_takes_74 ?_
        refine z_tc (k := 1) (by decide) ?_
        refine lv_aload_n hx hb dX5_takes_75 rfl (lv_at hl 2 rfl) ?_
        refine lv_iconst (v := 2) hx hb dX5_takes_76 (by decide) ?_
        refine va_iald (n := 3) (f := P2 0) (cA := cI) hx hb hK hP 7 0 rfl rfl (z_in (by decide)) dX5_takes_77 ?_
        refine z_tc (k := 2) (by decide) ?_
        obtain ⟨r10, M_11, hq12, hf⟩ := zb2_some hf
        refine zcallVi (ws2 := (w5 cI cB hM M_11 ++ wA3 cI cB hP2 P2)) (rest := []) ⟨hx, hb, hml, hown, hts⟩ (c_X5_takesPart l D cI cB hM M (P2 0 0) (P2 0 1) (P2 0 2) r10 M_11 hq12) (cwV 3 hts (z_gV hG wd_315 wd_317 wd_s4 wd_10 wd_318) rfl rfl rfl q_X5_takesPart ⟨Nat.le_of_ble_eq_true rfl, Nat.le_of_ble_eq_true rfl⟩) hK hP hD hS hA 5 rfl rfl rfl [0, 1, 2, 3, 4, 5, 6] [7] rfl rfl rfl (z_em ⟨rfl, trivial⟩) rfl rfl rfl hl.1 (Nat.le_of_ble_eq_true rfl) dX5_takes_78 ⟨Nat.zero_le _, Nat.zero_le _⟩ rfl (fun H locs hP hD hS => ?_)
        obtain ⟨hn, hf⟩ := zo_some hf
        cases hf
        exact zretB hx hb hr hlocks hn hK hP hD hS dX5_takes_81
      · replace hf := zif c_9 hf
        by_cases c_13 : a1 = 115
        · replace hf := zit c_13 hf
          refine zt c_13.symm ?_
          refine lv_lookup (off := 81) (tgt := 82) hx hb dX5_takes_1 (by decide) (by decide) (by decide) ?_
          refine lv_aload_n hx hb dX5_takes_82 rfl (lv_at hl 0 rfl) ?_
          refine lv_aload_n hx hb dX5_takes_83 rfl (lv_at hl 2 rfl) ?_
          refine lv_iconst (v := 0) hx hb dX5_takes_84 (by decide) ?_
          refine va_iald (n := 3) (f := P2 0) (cA := cI) hx hb hK hP 7 0 rfl rfl (z_in (by decide)) dX5_takes_85 ?_
          refine z_tc (k := 0) (by decide) ?_
          refine lv_aload_n hx hb dX5_takes_86 rfl (lv_at hl 2 rfl) ?_
          refine lv_iconst (v := 1) hx hb dX5_takes_87 (by decide) ?_
          refine va_iald (n := 3) (f := P2 0) (cA := cI) hx hb hK hP 7 0 rfl rfl (z_in (by decide)) dX5_takes_88 ?_
          refine z_tc (k := 1) (by decide) ?_
          obtain ⟨r14, M_15, hq16, hf⟩ := zb2_some hf
          refine zcallVi (ws2 := (w5 cI cB hM M_15 ++ wA3 cI cB hP2 P2)) (rest := []) ⟨hx, hb, hml, hown, hts⟩ (c_X5_takesSeam l D cI cB hM M (P2 0 0) (P2 0 1) r14 M_15 hq16) (cwV 2 hts (z_gV hG wd_323 wd_325 wd_s5 wd_10 wd_326) rfl rfl rfl q_X5_takesSeam ⟨Nat.le_of_ble_eq_true rfl, Nat.le_of_ble_eq_true rfl⟩) hK hP hD hS hA 5 rfl rfl rfl [0, 1, 2, 3, 4, 5, 6] [7] rfl rfl rfl (z_em ⟨rfl, trivial⟩) rfl rfl rfl hl.1 (Nat.le_of_ble_eq_true rfl) dX5_takes_89 ⟨Nat.zero_le _, Nat.zero_le _⟩ rfl (fun H locs hP hD hS => ?_)
          obtain ⟨hn, hf⟩ := zo_some hf
          cases hf
          exact zretB hx hb hr hlocks hn hK hP hD hS dX5_takes_92
        · replace hf := zif c_13 hf
          by_cases c_17 : a1 = 116
          · replace hf := zit c_17 hf
            refine zt c_17.symm ?_
            refine lv_lookup (off := 59) (tgt := 60) hx hb dX5_takes_1 (by decide) (by decide) (by decide) ?_
            refine lv_aload_n hx hb dX5_takes_60 rfl (lv_at hl 0 rfl) ?_
            refine lv_aload_n hx hb dX5_takes_61 rfl (lv_at hl 2 rfl) ?_
            refine lv_iconst (v := 0) hx hb dX5_takes_62 (by decide) ?_
            refine va_iald (n := 3) (f := P2 0) (cA := cI) hx hb hK hP 7 0 rfl rfl (z_in (by decide)) dX5_takes_63 ?_
            refine z_tc (k := 0) (by decide) ?_
            obtain ⟨r18, M_19, hq20, hf⟩ := zb2_some hf
            refine zcallVi (ws2 := (w5 cI cB hM M_19 ++ wA3 cI cB hP2 P2)) (rest := []) ⟨hx, hb, hml, hown, hts⟩ (c_X5_takesTailor l D cI cB hM M (P2 0 0) r18 M_19 hq20) (cwV 1 hts (z_gV hG wd_311 wd_313 wd_s3 wd_10 wd_314) rfl rfl rfl q_X5_takesTailor ⟨Nat.le_of_ble_eq_true rfl, Nat.le_of_ble_eq_true rfl⟩) hK hP hD hS hA 5 rfl rfl rfl [0, 1, 2, 3, 4, 5, 6] [7] rfl rfl rfl (z_em ⟨rfl, trivial⟩) rfl rfl rfl hl.1 (Nat.le_of_ble_eq_true rfl) dX5_takes_64 ⟨Nat.zero_le _, Nat.zero_le _⟩ rfl (fun H locs hP hD hS => ?_)
            obtain ⟨hn, hf⟩ := zo_some hf
            cases hf
            exact zretB hx hb hr hlocks hn hK hP hD hS dX5_takes_67
          · replace hf := zif c_17 hf
            by_cases c_21 : a1 = 122
            · replace hf := zit c_21 hf
              refine zt c_21.symm ?_
              refine lv_lookup (off := 100) (tgt := 101) hx hb dX5_takes_1 (by decide) (by decide) (by decide) ?_
              refine lv_aload_n hx hb dX5_takes_101 rfl (lv_at hl 0 rfl) ?_
              refine lv_aload_n hx hb dX5_takes_102 rfl (lv_at hl 2 rfl) ?_
              refine lv_iconst (v := 0) hx hb dX5_takes_103 (by decide) ?_
              refine va_iald (n := 3) (f := P2 0) (cA := cI) hx hb hK hP 7 0 rfl rfl (z_in (by decide)) dX5_takes_104 ?_
              refine z_tc (k := 0) (by decide) ?_
              obtain ⟨r22, M_23, hq24, hf⟩ := zb2_some hf
              refine zcallVi (ws2 := (w5 cI cB hM M_23 ++ wA3 cI cB hP2 P2)) (rest := []) ⟨hx, hb, hml, hown, hts⟩ (c_X5_takesBoy l D cI cB hM M (P2 0 0) r22 M_23 hq24) (cwV 1 hts (z_gV hG wd_335 wd_337 wd_s7 wd_10 wd_338) rfl rfl rfl q_X5_takesBoy ⟨Nat.le_of_ble_eq_true rfl, Nat.le_of_ble_eq_true rfl⟩) hK hP hD hS hA 5 rfl rfl rfl [0, 1, 2, 3, 4, 5, 6] [7] rfl rfl rfl (z_em ⟨rfl, trivial⟩) rfl rfl rfl hl.1 (Nat.le_of_ble_eq_true rfl) dX5_takes_105 ⟨Nat.zero_le _, Nat.zero_le _⟩ rfl (fun H locs hP hD hS => ?_)
              obtain ⟨hn, hf⟩ := zo_some hf
              cases hf
              exact zretB hx hb hr hlocks hn hK hP hD hS dX5_takes_108
            · replace hf := zif c_21 hf
              refine lv_lookup (off := 116) (tgt := 117) hx hb dX5_takes_1 (by decide) ((lv_osw (k := 99) (a := 99) c_1 (by decide)).trans ((lv_osw (k := 103) (a := 103) c_5 (by decide)).trans ((lv_osw (k := 112) (a := 112) c_9 (by decide)).trans ((lv_osw (k := 115) (a := 115) c_13 (by decide)).trans ((lv_osw (k := 116) (a := 116) c_17 (by decide)).trans ((lv_osw (k := 122) (a := 122) c_21 (by decide)).trans (rfl))))))) (by decide) ?_
              refine lv_iconst (v := 0) hx hb dX5_takes_117 (by decide) ?_
              cases hf
              exact zretB hx hb hr hlocks rfl hK hP hD hS dX5_takes_118
def f_X5_slip (a0 : Int32) (a1 : Int32) (a2 : Int32) : Option (Int32) := zv (((((7919 : Int64) * (a2.toInt64)) + ((6151 : Int64) * (a0.toInt64))) + ((3571 : Int64) * (a1.toInt64))) + 1) (fun (x1 : Int64) => zv (if (5 : Int32) < a1 then (5 : Int32) else a1) (fun (x2 : Int32) => zv (if (0 : Int32) < x2 then x2 else (0 : Int32)) (fun (x3 : Int32) => zdL ((((2 : Int32) * x3) + 1).toInt64) (some (((zrL (zrL (x1 * x1) (65521 : Int64)) ((((2 : Int32) * x3) + 1).toInt64)).toInt32) - x3)))))
abbrev ww_X5_slip : List Cond := Cond.code yX5_slip cX5_slip 6 (some .int) :: wG
theorem q_X5_slip : yX5_slip.cls ≠ "java/lang/invoke/MethodHandle" ∧ yX5_slip.cls ≠ "java/lang/invoke/VarHandle" ∧ (parseMethodDescriptor yX5_slip.desc).map (fun d => d.parameters.length) = some 3 := by decide +kernel
set_option maxHeartbeats 4000000 in
set_option maxRecDepth 100000 in
theorem c_X5_slip (l : Launch) (D : va_G) (cI cB : ClassId)  (a0 : Int32) (a1 : Int32) (a2 : Int32) (r0 : Int32) (hf : f_X5_slip a0 a1 a2 = some r0) : zMi l yX5_slip ww_X5_slip ({ frames := 1, cells := 0, slots := 0, locals := 21 } : Room) D cI cB [.int a0, .int a1, .int a2] [] r0 [] := by
  refine zofI (cc := cX5_slip) (maxL := 6) (ret := (some .int)) (by decide +kernel) rfl (Nat.le_of_ble_eq_true rfl) ?_
  intro p e s m below meth c A ls hx hb hml hr hown hts hlocks hK hP hD hS hA hl
  have hl : lv_has ls 6 [(0, .int a0), (1, .int a1), (2, .int a2)] := hl
  have hown : s.vm.findClass RX5 = some m.cls := hown
  have hG : ∀ w ∈ wG, w ∈ ww_X5_slip := fun w h => List.mem_cons_of_mem _ h
  unfold f_X5_slip at hf
  refine lv_ldc2 (v := 7919) hx hb hown (hts _ (List.mem_cons_of_mem _ wd_423)) dX5_slip_0 ?_
  refine lv_iload_n hx hb dX5_slip_3 rfl (lv_at hl 2 rfl) ?_
  refine lv_i2l hx hb dX5_slip_4 rfl ?_
  refine lv_lmul hx hb dX5_slip_5 ?_
  refine lv_ldc2 (v := 6151) hx hb hown (hts _ (List.mem_cons_of_mem _ wd_424)) dX5_slip_6 ?_
  refine lv_iload_n hx hb dX5_slip_9 rfl (lv_at hl 0 rfl) ?_
  refine lv_i2l hx hb dX5_slip_10 rfl ?_
  refine lv_lmul hx hb dX5_slip_11 ?_
  refine lv_ladd hx hb dX5_slip_12 ?_
  refine lv_ldc2 (v := 3571) hx hb hown (hts _ (List.mem_cons_of_mem _ wd_425)) dX5_slip_13 ?_
  refine lv_iload_n hx hb dX5_slip_16 rfl (lv_at hl 1 rfl) ?_
  refine lv_i2l hx hb dX5_slip_17 rfl ?_
  refine lv_lmul hx hb dX5_slip_18 ?_
  refine lv_ladd hx hb dX5_slip_19 ?_
  refine lv_lconst (v := 1) hx hb dX5_slip_20 (by decide) ?_
  refine lv_ladd hx hb dX5_slip_21 ?_
  obtain ⟨x1, e_x1, hf⟩ := zv_some hf
  refine ztL e_x1 ?_
  refine lv_lstore_n (lv' := [(3, .long x1), (0, .int a0), (1, .int a1), (2, .int a2)]) hx hb dX5_slip_22 rfl hl (by decide) rfl (fun ls hl => ?_)
  refine lv_iconst (v := 0) hx hb dX5_slip_23 (by decide) ?_
  refine lv_iload_n hx hb dX5_slip_24 rfl (lv_at hl 2 rfl) ?_
  refine lv_iconst (v := 5) hx hb dX5_slip_25 (by decide) ?_
  obtain ⟨x2, e_x2, hf⟩ := zv_some hf
  refine va_mmin hx hb (hml.trans hl.1.symm) hown (hts _ (List.mem_cons_of_mem _ wd_426)) (hts _ (List.mem_cons_of_mem _ wd_427)) (hts _ (List.mem_cons_of_mem _ wd_5)) (hts _ (List.mem_cons_of_mem _ wd_428)) (Nat.le_of_ble_eq_true rfl) (Nat.le_of_ble_eq_true rfl) (Nat.zero_le _) (Nat.zero_le _) dX5_slip_26 ?_
  refine zt e_x2 ?_
  obtain ⟨x3, e_x3, hf⟩ := zv_some hf
  refine va_mmax hx hb (hml.trans hl.1.symm) hown (hts _ (List.mem_cons_of_mem _ wd_429)) (hts _ (List.mem_cons_of_mem _ wd_70)) (hts _ (List.mem_cons_of_mem _ wd_5)) (hts _ (List.mem_cons_of_mem _ wd_71)) (Nat.le_of_ble_eq_true rfl) (Nat.le_of_ble_eq_true rfl) (Nat.zero_le _) (Nat.zero_le _) dX5_slip_29 ?_
  refine zt e_x3 ?_
  refine lv_istore (lv' := [(5, .int x3), (3, .long x1), (0, .int a0), (1, .int a1), (2, .int a2)]) hx hb dX5_slip_32 hl (by decide) rfl (fun ls hl => ?_)
  refine lv_lload_n hx hb dX5_slip_34 rfl (lv_at hl 1 rfl) ?_
  refine lv_lload_n hx hb dX5_slip_35 rfl (lv_at hl 1 rfl) ?_
  refine lv_lmul hx hb dX5_slip_36 ?_
  refine lv_ldc2 (v := 65521) hx hb hown (hts _ (List.mem_cons_of_mem _ wd_430)) dX5_slip_37 ?_
  refine lv_lrem hx hb dX5_slip_40 (by decide) ?_
  refine ztL (y := zrL (x1 * x1) (65521 : Int64)) rfl ?_
  refine lv_iconst (v := 2) hx hb dX5_slip_41 (by decide) ?_
  refine lv_iload hx hb dX5_slip_42 (lv_at hl 0 rfl) ?_
  refine lv_imul hx hb dX5_slip_44 ?_
  refine lv_iconst (v := 1) hx hb dX5_slip_45 (by decide) ?_
  refine lv_iadd hx hb dX5_slip_46 ?_
  refine lv_i2l hx hb dX5_slip_47 rfl ?_
  obtain ⟨n4, hf⟩ := zdL_some hf
  refine lv_lrem hx hb dX5_slip_48 n4 ?_
  refine ztL (y := zrL (zrL (x1 * x1) (65521 : Int64)) ((((2 : Int32) * x3) + 1).toInt64)) rfl ?_
  refine lv_l2i hx hb dX5_slip_49 rfl ?_
  refine lv_iload hx hb dX5_slip_50 (lv_at hl 0 rfl) ?_
  refine lv_isub hx hb dX5_slip_52 ?_
  cases hf
  exact zretI hx hb hr hlocks hK hP hD hS dX5_slip_53
def f_X5_byInch (a0 : Int32) (a1 : Int32) : Option (Int32) := some ((a0 * a1) / (100 : Int32))
abbrev ww_X5_byInch : List Cond := Cond.code yX5_byInch cX5_byInch 2 (some .int) :: wG
theorem q_X5_byInch : yX5_byInch.cls ≠ "java/lang/invoke/MethodHandle" ∧ yX5_byInch.cls ≠ "java/lang/invoke/VarHandle" ∧ (parseMethodDescriptor yX5_byInch.desc).map (fun d => d.parameters.length) = some 2 := by decide +kernel
set_option maxHeartbeats 4000000 in
set_option maxRecDepth 100000 in
theorem c_X5_byInch (l : Launch) (D : va_G) (cI cB : ClassId)  (a0 : Int32) (a1 : Int32) (r0 : Int32) (hf : f_X5_byInch a0 a1 = some r0) : zMi l yX5_byInch ww_X5_byInch ({ frames := 0, cells := 0, slots := 0, locals := 0 } : Room) D cI cB [.int a0, .int a1] [] r0 [] := by
  refine zofI (cc := cX5_byInch) (maxL := 2) (ret := (some .int)) (by decide +kernel) rfl (Nat.le_of_ble_eq_true rfl) ?_
  intro p e s m below meth c A ls hx hb hml hr hown hts hlocks hK hP hD hS hA hl
  have hl : lv_has ls 2 [(0, .int a0), (1, .int a1)] := hl
  have hown : s.vm.findClass RX5 = some m.cls := hown
  have hG : ∀ w ∈ wG, w ∈ ww_X5_byInch := fun w h => List.mem_cons_of_mem _ h
  unfold f_X5_byInch at hf
  refine lv_iload_n hx hb dX5_byInch_0 rfl (lv_at hl 0 rfl) ?_
  refine lv_iload_n hx hb dX5_byInch_1 rfl (lv_at hl 1 rfl) ?_
  refine lv_imul hx hb dX5_byInch_2 ?_
  refine lv_bipush (v := 100) hx hb dX5_byInch_3 (by decide) ?_
  refine lv_idiv hx hb dX5_byInch_5 (by decide) ?_
  cases hf
  exact zretI hx hb hr hlocks hK hP hD hS dX5_byInch_6
def f_X5_cutLength (M : zMm) (a1 : Int32) (a2 : Int32) : Option (Int32) := zl 7 (M 2) a1 (fun v1 => zl 7 (M 1) a1 (fun v2 => zl 6 (M 0) v2 (fun v3 => zb1 (f_X5_byInch (v1 + a2) v3) (fun (r4 : Int32) => some r4))))
abbrev ww_X5_cutLength : List Cond := Cond.code yX5_cutLength cX5_cutLength 3 (some .int) :: wG
theorem q_X5_cutLength : yX5_cutLength.cls = RX5 ∧ yX5_cutLength.cls ≠ "java/lang/invoke/MethodHandle" ∧ yX5_cutLength.cls ≠ "java/lang/invoke/VarHandle" ∧ (parseMethodDescriptor yX5_cutLength.desc).map (fun d => d.parameters.length) = some 2 := by decide +kernel
set_option maxHeartbeats 4000000 in
set_option maxRecDepth 100000 in
theorem c_X5_cutLength (l : Launch) (D : va_G) (cI cB : ClassId) (hM : Nat → Nat) (M : zMm) (a1 : Int32) (a2 : Int32) (r0 : Int32) (hf : f_X5_cutLength M a1 a2 = some r0) : zMi l yX5_cutLength ww_X5_cutLength ({ frames := 1, cells := 0, slots := 0, locals := 21 } : Room) D cI cB [.ref (hM 0), .int a1, .int a2] [k5_0 cI cB hM M, k5_1 cI cB hM M, k5_2 cI cB hM M, k5_3 cI cB hM M] r0 [k5_0 cI cB hM M, k5_1 cI cB hM M, k5_2 cI cB hM M, k5_3 cI cB hM M] := by
  refine zofI (cc := cX5_cutLength) (maxL := 3) (ret := (some .int)) (by decide +kernel) rfl (Nat.le_of_ble_eq_true rfl) ?_
  intro p e s m below meth c A ls hx hb hml hr hown hts hlocks hK hP hD hS hA hl
  have hl : lv_has ls 3 [(0, .ref (hM 0)), (1, .int a1), (2, .int a2)] := hl
  have hown : s.vm.findClass RX5 = some m.cls := hown
  have hG : ∀ w ∈ wG, w ∈ ww_X5_cutLength := fun w h => List.mem_cons_of_mem _ h
  have hi5 : ∀ w ∈ wsX50, w ∈ ww_X5_cutLength := fun w h => List.mem_cons_of_mem _ (z_inX5 w h)
  unfold f_X5_cutLength at hf
  refine lv_aload_n hx hb dX5_cutLength_0 rfl (lv_at hl 0 rfl) ?_
  refine va_get (D := D) (ci := 5) (v := .ref (hM 3)) (C := RX5) (T := TX5) (N := 12) hx hb hts hi5 hown hK hP 0 rfl rfl 2 (Nat.le_of_ble_eq_true rfl) (hts _ (List.mem_cons_of_mem _ wd_181)) (fun _ h9 => h9) rfl dX5_cutLength_1 ?_
  refine lv_iload_n hx hb dX5_cutLength_4 rfl (lv_at hl 1 rfl) ?_
  obtain ⟨i_v1, v1, e_v1, hf⟩ := zl_some hf
  refine va_iald (n := 7) (f := M 2) (cA := cI) hx hb hK hP 3 0 rfl rfl i_v1 dX5_cutLength_5 ?_
  refine zt e_v1 ?_
  refine lv_iload_n hx hb dX5_cutLength_6 rfl (lv_at hl 2 rfl) ?_
  refine lv_iadd hx hb dX5_cutLength_7 ?_
  refine lv_aload_n hx hb dX5_cutLength_8 rfl (lv_at hl 0 rfl) ?_
  refine va_get (D := D) (ci := 5) (v := .ref (hM 1)) (C := RX5) (T := TX5) (N := 12) hx hb hts hi5 hown hK hP 0 rfl rfl 0 (Nat.le_of_ble_eq_true rfl) (hts _ (List.mem_cons_of_mem _ wd_178)) (fun _ h9 => h9) rfl dX5_cutLength_9 ?_
  refine lv_aload_n hx hb dX5_cutLength_12 rfl (lv_at hl 0 rfl) ?_
  refine va_get (D := D) (ci := 5) (v := .ref (hM 2)) (C := RX5) (T := TX5) (N := 12) hx hb hts hi5 hown hK hP 0 rfl rfl 1 (Nat.le_of_ble_eq_true rfl) (hts _ (List.mem_cons_of_mem _ wd_179)) (fun _ h9 => h9) rfl dX5_cutLength_13 ?_
  refine lv_iload_n hx hb dX5_cutLength_16 rfl (lv_at hl 1 rfl) ?_
  obtain ⟨i_v2, v2, e_v2, hf⟩ := zl_some hf
  refine va_iald (n := 7) (f := M 1) (cA := cI) hx hb hK hP 2 0 rfl rfl i_v2 dX5_cutLength_17 ?_
  refine zt e_v2 ?_
  obtain ⟨i_v3, v3, e_v3, hf⟩ := zl_some hf
  refine va_iald (n := 6) (f := M 0) (cA := cI) hx hb hK hP 1 0 rfl rfl i_v3 dX5_cutLength_18 ?_
  refine zt e_v3 ?_
  obtain ⟨r4, hq5, hf⟩ := zb1_some hf
  refine zcallSi (rest := []) ⟨hx, hb, hml, hown, hts⟩ (c_X5_byInch l D cI cB (v1 + a2) v3 r4 hq5) (z_cwS 2 hts (z_gS hG wd_435 wd_436 wd_10 wd_437) rfl rfl rfl q_X5_byInch ⟨Nat.le_of_ble_eq_true rfl, Nat.le_of_ble_eq_true rfl⟩) hK hP hD hS hA rfl hl.1 (Nat.le_of_ble_eq_true rfl) dX5_cutLength_19 ⟨Nat.zero_le _, Nat.zero_le _⟩ rfl (fun H locs hP hD hS => ?_)
  cases hf
  exact zretI hx hb hr hlocks hK hP hD hS dX5_cutLength_22
def f_X5_gapOf (M : zMm) (P2 : zMm) (a1 : Int32) : Option (Int32) := zl 10 (M 4) a1 (fun v1 => zl 7 (P2 0) v1 (fun v2 => zl 10 (M 5) a1 (fun v3 => zl 7 (P2 0) v3 (fun v4 => zv (if 0 ≤ (v2 - v4) then (v2 - v4) else 0 - (v2 - v4)) (fun (x5 : Int32) => some x5)))))
abbrev ww_X5_gapOf : List Cond := Cond.code yX5_gapOf cX5_gapOf 3 (some .int) :: wG
theorem q_X5_gapOf : yX5_gapOf.cls = RX5 ∧ yX5_gapOf.cls ≠ "java/lang/invoke/MethodHandle" ∧ yX5_gapOf.cls ≠ "java/lang/invoke/VarHandle" ∧ (parseMethodDescriptor yX5_gapOf.desc).map (fun d => d.parameters.length) = some 2 := by decide +kernel
set_option maxHeartbeats 4000000 in
set_option maxRecDepth 100000 in
theorem c_X5_gapOf (l : Launch) (D : va_G) (cI cB : ClassId) (hM : Nat → Nat) (hP2 : Nat → Nat) (M : zMm) (P2 : zMm) (a1 : Int32) (r0 : Int32) (hf : f_X5_gapOf M P2 a1 = some r0) : zMi l yX5_gapOf ww_X5_gapOf ({ frames := 1, cells := 0, slots := 0, locals := 21 } : Room) D cI cB [.ref (hM 0), .int a1, .ref (hP2 0)] ([k5_0 cI cB hM M, k5_5 cI cB hM M, k5_6 cI cB hM M] ++ wA7 cI cB hP2 P2) r0 ([k5_0 cI cB hM M, k5_5 cI cB hM M, k5_6 cI cB hM M] ++ wA7 cI cB hP2 P2) := by
  refine zofI (cc := cX5_gapOf) (maxL := 3) (ret := (some .int)) (by decide +kernel) rfl (Nat.le_of_ble_eq_true rfl) ?_
  intro p e s m below meth c A ls hx hb hml hr hown hts hlocks hK hP hD hS hA hl
  have hl : lv_has ls 3 [(0, .ref (hM 0)), (1, .int a1), (2, .ref (hP2 0))] := hl
  have hown : s.vm.findClass RX5 = some m.cls := hown
  have hG : ∀ w ∈ wG, w ∈ ww_X5_gapOf := fun w h => List.mem_cons_of_mem _ h
  have hi5 : ∀ w ∈ wsX50, w ∈ ww_X5_gapOf := fun w h => List.mem_cons_of_mem _ (z_inX5 w h)
  unfold f_X5_gapOf at hf
  refine lv_aload_n hx hb dX5_gapOf_0 rfl (lv_at hl 2 rfl) ?_
  refine lv_aload_n hx hb dX5_gapOf_1 rfl (lv_at hl 0 rfl) ?_
  refine va_get (D := D) (ci := 5) (v := .ref (hM 5)) (C := RX5) (T := TX5) (N := 12) hx hb hts hi5 hown hK hP 0 rfl rfl 4 (Nat.le_of_ble_eq_true rfl) (hts _ (List.mem_cons_of_mem _ wd_185)) (fun _ h9 => h9) rfl dX5_gapOf_2 ?_
  refine lv_iload_n hx hb dX5_gapOf_5 rfl (lv_at hl 1 rfl) ?_
  obtain ⟨i_v1, v1, e_v1, hf⟩ := zl_some hf
  refine va_iald (n := 10) (f := M 4) (cA := cI) hx hb hK hP 1 0 rfl rfl i_v1 dX5_gapOf_6 ?_
  refine zt e_v1 ?_
  obtain ⟨i_v2, v2, e_v2, hf⟩ := zl_some hf
  refine va_iald (n := 7) (f := P2 0) (cA := cI) hx hb hK hP 3 0 rfl rfl i_v2 dX5_gapOf_7 ?_
  refine zt e_v2 ?_
  refine lv_aload_n hx hb dX5_gapOf_8 rfl (lv_at hl 2 rfl) ?_
  refine lv_aload_n hx hb dX5_gapOf_9 rfl (lv_at hl 0 rfl) ?_
  refine va_get (D := D) (ci := 5) (v := .ref (hM 6)) (C := RX5) (T := TX5) (N := 12) hx hb hts hi5 hown hK hP 0 rfl rfl 5 (Nat.le_of_ble_eq_true rfl) (hts _ (List.mem_cons_of_mem _ wd_188)) (fun _ h9 => h9) rfl dX5_gapOf_10 ?_
  refine lv_iload_n hx hb dX5_gapOf_13 rfl (lv_at hl 1 rfl) ?_
  obtain ⟨i_v3, v3, e_v3, hf⟩ := zl_some hf
  refine va_iald (n := 10) (f := M 5) (cA := cI) hx hb hK hP 2 0 rfl rfl i_v3 dX5_gapOf_14 ?_
  refine zt e_v3 ?_
  obtain ⟨i_v4, v4, e_v4, hf⟩ := zl_some hf
  refine va_iald (n := 7) (f := P2 0) (cA := cI) hx hb hK hP 3 0 rfl rfl i_v4 dX5_gapOf_15 ?_
  refine zt e_v4 ?_
  refine lv_isub hx hb dX5_gapOf_16 ?_
  obtain ⟨x5, e_x5, hf⟩ := zv_some hf
  refine va_mabs hx hb (hml.trans hl.1.symm) hown (hts _ (List.mem_cons_of_mem _ wd_462)) (hts _ (List.mem_cons_of_mem _ wd_463)) (hts _ (List.mem_cons_of_mem _ wd_5)) (hts _ (List.mem_cons_of_mem _ wd_464)) (Nat.le_of_ble_eq_true rfl) (Nat.le_of_ble_eq_true rfl) (Nat.zero_le _) (Nat.zero_le _) dX5_gapOf_17 ?_
  refine zt e_x5 ?_
  cases hf
  exact zretI hx hb hr hlocks hK hP hD hS dX5_gapOf_20
def L_X5_sumOfGaps_4 (M : zMm) (P1 : zMm)  : Nat → Int32 → Int32 → Option (Int32 × Int32)
  | 0, _, _ => none
  | n + 1, l2, l3 => if (M 8 0) ≤ l3 then some (l2, l3) else zb1 (f_X5_gapOf M P1 l3) (fun (r2 : Int32) => zv (l2 + r2) (fun (x4 : Int32) => zv (l3 + 1) (fun (x5 : Int32) => L_X5_sumOfGaps_4 M P1 n x4 x5)))
def f_X5_sumOfGaps (M : zMm) (P1 : zMm) : Option (Int32) := zb2 (L_X5_sumOfGaps_4 M P1 100000 0 0) (fun (x6 : Int32) (x7 : Int32) => some x6)
abbrev ww_X5_sumOfGaps : List Cond := Cond.code yX5_sumOfGaps cX5_sumOfGaps 4 (some .int) :: wG
theorem q_X5_sumOfGaps : yX5_sumOfGaps.cls = RX5 ∧ yX5_sumOfGaps.cls ≠ "java/lang/invoke/MethodHandle" ∧ yX5_sumOfGaps.cls ≠ "java/lang/invoke/VarHandle" ∧ (parseMethodDescriptor yX5_sumOfGaps.desc).map (fun d => d.parameters.length) = some 1 := by decide +kernel
set_option maxHeartbeats 4000000 in
set_option maxRecDepth 100000 in
theorem c_X5_sumOfGaps (l : Launch) (D : va_G) (cI cB : ClassId) (hM : Nat → Nat) (hP1 : Nat → Nat) (M : zMm) (P1 : zMm) (r0 : Int32) (hf : f_X5_sumOfGaps M P1 = some r0) : zMi l yX5_sumOfGaps ww_X5_sumOfGaps ({ frames := 2, cells := 0, slots := 0, locals := 43 } : Room) D cI cB [.ref (hM 0), .ref (hP1 0)] ([k5_0 cI cB hM M, k5_5 cI cB hM M, k5_6 cI cB hM M] ++ wA7 cI cB hP1 P1) r0 ([k5_0 cI cB hM M, k5_5 cI cB hM M, k5_6 cI cB hM M] ++ wA7 cI cB hP1 P1) := by
  refine zofI (cc := cX5_sumOfGaps) (maxL := 4) (ret := (some .int)) (by decide +kernel) rfl (Nat.le_of_ble_eq_true rfl) ?_
  intro p e s m below meth c A ls hx hb hml hr hown hts hlocks hK hP hD hS hA hl
  have hl : lv_has ls 4 [(0, .ref (hM 0)), (1, .ref (hP1 0))] := hl
  have hown : s.vm.findClass RX5 = some m.cls := hown
  have hG : ∀ w ∈ wG, w ∈ ww_X5_sumOfGaps := fun w h => List.mem_cons_of_mem _ h
  have hi5 : ∀ w ∈ wsX50, w ∈ ww_X5_sumOfGaps := fun w h => List.mem_cons_of_mem _ (z_inX5 w h)
  have L4 : ∀ (M : zMm) (P1 : zMm)  (n : Nat) (l2 : Int32) (l3 : Int32) (o2 : Int32) (o3 : Int32), L_X5_sumOfGaps_4 M P1 n l2 l3 = some (o2, o3) → zAt p l e ({ frames := 2, cells := 0, slots := 0, locals := 43 } : Room) s m [.ref (hM 0), .ref (hP1 0)].toArray below meth c (MQ below (zQi D cI cB r0 ([k5_0 cI cB hM M, k5_5 cI cB hM M, k5_6 cI cB hM M] ++ wA7 cI cB hP1 P1) A) [.ref (hM 0), .ref (hP1 0)].toArray s 0 0 A) A D 4 ([k5_0 cI cB hM M, k5_5 cI cB hM M, k5_6 cI cB hM M] ++ wA7 cI cB hP1 P1) [(0, .ref (hM 0)), (1, .ref (hP1 0)), (2, .int o2), (3, .int o3)] 27 [] → zAt p l e ({ frames := 2, cells := 0, slots := 0, locals := 43 } : Room) s m [.ref (hM 0), .ref (hP1 0)].toArray below meth c (MQ below (zQi D cI cB r0 ([k5_0 cI cB hM M, k5_5 cI cB hM M, k5_6 cI cB hM M] ++ wA7 cI cB hP1 P1) A) [.ref (hM 0), .ref (hP1 0)].toArray s 0 0 A) A D 4 ([k5_0 cI cB hM M, k5_5 cI cB hM M, k5_6 cI cB hM M] ++ wA7 cI cB hP1 P1) [(0, .ref (hM 0)), (1, .ref (hP1 0)), (2, .int l2), (3, .int l3)] 4 [] := by
    intro M P1 n
    induction n with
    | zero => intro l2 l3 o2 o3 hf; simp [L_X5_sumOfGaps_4] at hf
    | succ n ih =>
      intro l2 l3 o2 o3 hf hk H locs ls hP hD hS hl
      rw [L_X5_sumOfGaps_4] at hf
      refine lv_iload_n hx hb dX5_sumOfGaps_4 rfl (lv_at hl 3 rfl) ?_
      refine lv_aload_n hx hb dX5_sumOfGaps_5 rfl (lv_at hl 0 rfl) ?_
      refine va_get (D := D) (ci := 5) (v := .int (M 8 0)) (C := RX5) (T := TX5) (N := 12) hx hb hts hi5 hown hK hP 0 rfl rfl 8 (Nat.le_of_ble_eq_true rfl) (hts _ (List.mem_cons_of_mem _ wd_197)) (fun _ h9 => h9) rfl dX5_sumOfGaps_6 ?_
      refine lv_icmp_ge (tgt := 27) hx hb dX5_sumOfGaps_9 (by decide) (fun c_1 => ?_) (fun c_1 => ?_)
      · replace hf := zit c_1 hf
        cases hf
        exact hk _ _ _ hP hD hS (lv_sub hl [0, 1, 2, 3] rfl)
      · replace hf := zif c_1 hf
        refine lv_iload_n hx hb dX5_sumOfGaps_12 rfl (lv_at hl 2 rfl) ?_
        refine lv_aload_n hx hb dX5_sumOfGaps_13 rfl (lv_at hl 0 rfl) ?_
        refine lv_iload_n hx hb dX5_sumOfGaps_14 rfl (lv_at hl 3 rfl) ?_
        refine lv_aload_n hx hb dX5_sumOfGaps_15 rfl (lv_at hl 1 rfl) ?_
        obtain ⟨r2, hq3, hf⟩ := zb1_some hf
        refine zcallVi (ws2 := ([k5_0 cI cB hM M, k5_5 cI cB hM M, k5_6 cI cB hM M] ++ wA7 cI cB hP1 P1)) (rest := [.int l2]) ⟨hx, hb, hml, hown, hts⟩ (c_X5_gapOf l D cI cB hM hP1 M P1 l3 r2 hq3) (cwV 2 hts (z_gV hG wd_458 wd_459 wd_460 wd_10 wd_461) rfl rfl rfl q_X5_gapOf ⟨Nat.le_of_ble_eq_true rfl, Nat.le_of_ble_eq_true rfl⟩) hK hP hD hS hA 5 rfl rfl rfl [0, 1, 2, 3] [] rfl rfl rfl rfl rfl rfl rfl hl.1 (Nat.le_of_ble_eq_true rfl) dX5_sumOfGaps_16 ⟨Nat.zero_le _, Nat.zero_le _⟩ rfl (fun H locs hP hD hS => ?_)
        refine lv_iadd hx hb dX5_sumOfGaps_19 ?_
        obtain ⟨x4, e_x4, hf⟩ := zv_some hf
        refine zt e_x4 ?_
        refine lv_istore_n (lv' := [(2, .int x4), (0, .ref (hM 0)), (1, .ref (hP1 0)), (3, .int l3)]) hx hb dX5_sumOfGaps_20 rfl hl (by decide) rfl (fun ls hl => ?_)
        obtain ⟨x5, e_x5, hf⟩ := zv_some hf
        refine lv_iinc (v := x5) (lv' := [(3, .int x5), (2, .int x4), (0, .ref (hM 0)), (1, .ref (hP1 0))]) hx hb dX5_sumOfGaps_21 hl (k := 3) rfl (by rw [e_x5]; rfl) (by decide) rfl (fun ls hl => ?_)
        refine lv_goto (tgt := 4) hx hb dX5_sumOfGaps_24 (by decide) ?_
        exact ih _ _ _ _ hf hk _ _ _ hP hD hS (lv_sub hl [2, 3, 1, 0] rfl)
  unfold f_X5_sumOfGaps at hf
  refine lv_iconst (v := 0) hx hb dX5_sumOfGaps_0 (by decide) ?_
  refine lv_istore_n (lv' := [(2, .int 0), (0, .ref (hM 0)), (1, .ref (hP1 0))]) hx hb dX5_sumOfGaps_1 rfl hl (by decide) rfl (fun ls hl => ?_)
  refine lv_iconst (v := 0) hx hb dX5_sumOfGaps_2 (by decide) ?_
  refine lv_istore_n (lv' := [(3, .int 0), (2, .int 0), (0, .ref (hM 0)), (1, .ref (hP1 0))]) hx hb dX5_sumOfGaps_3 rfl hl (by decide) rfl (fun ls hl => ?_)
  obtain ⟨x6, x7, hq8, hf⟩ := zb2_some hf
  refine L4 _ _ _ _ _ _ _ hq8 ?_ _ _ _ hP hD hS (lv_sub hl [2, 3, 1, 0] rfl)
  intro H locs ls hP hD hS hl
  refine lv_iload_n hx hb dX5_sumOfGaps_27 rfl (lv_at hl 2 rfl) ?_
  cases hf
  exact zretI hx hb hr hlocks hK hP hD hS dX5_sumOfGaps_28
def L_X5_isClosedBy_2 (M : zMm) (P1 : zMm)  : Nat → Int32 → Option (Int32)
  | 0, _ => none
  | n + 1, l2 => if (M 8 0) ≤ l2 then some (1 : Int32) else zb1 (f_X5_gapOf M P1 l2) (fun (r2 : Int32) => if r2 ≤ (M 9 0) then zv (l2 + 1) (fun (x5 : Int32) => L_X5_isClosedBy_2 M P1 n x5) else some (0 : Int32))
def f_X5_isClosedBy (M : zMm) (P1 : zMm) : Option (Int32) := L_X5_isClosedBy_2 M P1 100000 0
abbrev ww_X5_isClosedBy : List Cond := Cond.code yX5_isClosedBy cX5_isClosedBy 3 (some .boolean) :: wG
theorem q_X5_isClosedBy : yX5_isClosedBy.cls = RX5 ∧ yX5_isClosedBy.cls ≠ "java/lang/invoke/MethodHandle" ∧ yX5_isClosedBy.cls ≠ "java/lang/invoke/VarHandle" ∧ (parseMethodDescriptor yX5_isClosedBy.desc).map (fun d => d.parameters.length) = some 1 := by decide +kernel
set_option maxHeartbeats 4000000 in
set_option maxRecDepth 100000 in
theorem c_X5_isClosedBy (l : Launch) (D : va_G) (cI cB : ClassId) (hM : Nat → Nat) (hP1 : Nat → Nat) (M : zMm) (P1 : zMm) (r0 : Int32) (hf : f_X5_isClosedBy M P1 = some r0) : zMi l yX5_isClosedBy ww_X5_isClosedBy ({ frames := 2, cells := 0, slots := 0, locals := 43 } : Room) D cI cB [.ref (hM 0), .ref (hP1 0)] ([k5_0 cI cB hM M, k5_5 cI cB hM M, k5_6 cI cB hM M] ++ wA7 cI cB hP1 P1) r0 ([k5_0 cI cB hM M, k5_5 cI cB hM M, k5_6 cI cB hM M] ++ wA7 cI cB hP1 P1) := by
  refine zofI (cc := cX5_isClosedBy) (maxL := 3) (ret := (some .boolean)) (by decide +kernel) rfl (Nat.le_of_ble_eq_true rfl) ?_
  intro p e s m below meth c A ls hx hb hml hr hown hts hlocks hK hP hD hS hA hl
  have hl : lv_has ls 3 [(0, .ref (hM 0)), (1, .ref (hP1 0))] := hl
  have hown : s.vm.findClass RX5 = some m.cls := hown
  have hG : ∀ w ∈ wG, w ∈ ww_X5_isClosedBy := fun w h => List.mem_cons_of_mem _ h
  have hi5 : ∀ w ∈ wsX50, w ∈ ww_X5_isClosedBy := fun w h => List.mem_cons_of_mem _ (z_inX5 w h)
  have L2 : ∀ (M : zMm) (P1 : zMm)  (n : Nat) (l2 : Int32), L_X5_isClosedBy_2 M P1 n l2 = some r0 → zAt p l e ({ frames := 2, cells := 0, slots := 0, locals := 43 } : Room) s m [.ref (hM 0), .ref (hP1 0)].toArray below meth c (MQ below (zQi D cI cB r0 ([k5_0 cI cB hM M, k5_5 cI cB hM M, k5_6 cI cB hM M] ++ wA7 cI cB hP1 P1) A) [.ref (hM 0), .ref (hP1 0)].toArray s 0 0 A) A D 3 ([k5_0 cI cB hM M, k5_5 cI cB hM M, k5_6 cI cB hM M] ++ wA7 cI cB hP1 P1) [(0, .ref (hM 0)), (1, .ref (hP1 0)), (2, .int l2)] 2 [] := by
    intro M P1 n
    induction n with
    | zero => intro l2 hf; simp [L_X5_isClosedBy_2] at hf
    | succ n ih =>
      intro l2 hf H locs ls hP hD hS hl
      rw [L_X5_isClosedBy_2] at hf
      refine lv_iload_n hx hb dX5_isClosedBy_2 rfl (lv_at hl 2 rfl) ?_
      refine lv_aload_n hx hb dX5_isClosedBy_3 rfl (lv_at hl 0 rfl) ?_
      refine va_get (D := D) (ci := 5) (v := .int (M 8 0)) (C := RX5) (T := TX5) (N := 12) hx hb hts hi5 hown hK hP 0 rfl rfl 8 (Nat.le_of_ble_eq_true rfl) (hts _ (List.mem_cons_of_mem _ wd_197)) (fun _ h9 => h9) rfl dX5_isClosedBy_4 ?_
      refine lv_icmp_ge (tgt := 31) hx hb dX5_isClosedBy_7 (by decide) (fun c_1 => ?_) (fun c_1 => ?_)
      · replace hf := zit c_1 hf
        refine lv_iconst (v := 1) hx hb dX5_isClosedBy_31 (by decide) ?_
        cases hf
        exact zretB hx hb hr hlocks rfl hK hP hD hS dX5_isClosedBy_32
      · replace hf := zif c_1 hf
        refine lv_aload_n hx hb dX5_isClosedBy_10 rfl (lv_at hl 0 rfl) ?_
        refine lv_iload_n hx hb dX5_isClosedBy_11 rfl (lv_at hl 2 rfl) ?_
        refine lv_aload_n hx hb dX5_isClosedBy_12 rfl (lv_at hl 1 rfl) ?_
        obtain ⟨r2, hq3, hf⟩ := zb1_some hf
        refine zcallVi (ws2 := ([k5_0 cI cB hM M, k5_5 cI cB hM M, k5_6 cI cB hM M] ++ wA7 cI cB hP1 P1)) (rest := []) ⟨hx, hb, hml, hown, hts⟩ (c_X5_gapOf l D cI cB hM hP1 M P1 l2 r2 hq3) (cwV 2 hts (z_gV hG wd_458 wd_459 wd_460 wd_10 wd_461) rfl rfl rfl q_X5_gapOf ⟨Nat.le_of_ble_eq_true rfl, Nat.le_of_ble_eq_true rfl⟩) hK hP hD hS hA 5 rfl rfl rfl [0, 1, 2, 3] [] rfl rfl rfl rfl rfl rfl rfl hl.1 (Nat.le_of_ble_eq_true rfl) dX5_isClosedBy_13 ⟨Nat.zero_le _, Nat.zero_le _⟩ rfl (fun H locs hP hD hS => ?_)
        refine lv_aload_n hx hb dX5_isClosedBy_16 rfl (lv_at hl 0 rfl) ?_
        refine va_get (D := D) (ci := 5) (v := .int (M 9 0)) (C := RX5) (T := TX5) (N := 12) hx hb hts hi5 hown hK hP 0 rfl rfl 9 (Nat.le_of_ble_eq_true rfl) (hts _ (List.mem_cons_of_mem _ wd_200)) (fun _ h9 => h9) rfl dX5_isClosedBy_17 ?_
        refine lv_icmp_le (tgt := 25) hx hb dX5_isClosedBy_20 (by decide) (fun c_4 => ?_) (fun c_4 => ?_)
        · replace hf := zit c_4 hf
          obtain ⟨x5, e_x5, hf⟩ := zv_some hf
          refine lv_iinc (v := x5) (lv' := [(2, .int x5), (0, .ref (hM 0)), (1, .ref (hP1 0))]) hx hb dX5_isClosedBy_25 hl (k := 2) rfl (by rw [e_x5]; rfl) (by decide) rfl (fun ls hl => ?_)
          refine lv_goto (tgt := 2) hx hb dX5_isClosedBy_28 (by decide) ?_
          exact ih _ hf _ _ _ hP hD hS (lv_sub hl [1, 2, 0] rfl)
        · replace hf := zif c_4 hf
          refine lv_iconst (v := 0) hx hb dX5_isClosedBy_23 (by decide) ?_
          cases hf
          exact zretB hx hb hr hlocks rfl hK hP hD hS dX5_isClosedBy_24
  unfold f_X5_isClosedBy at hf
  refine lv_iconst (v := 0) hx hb dX5_isClosedBy_0 (by decide) ?_
  refine lv_istore_n (lv' := [(2, .int 0), (0, .ref (hM 0)), (1, .ref (hP1 0))]) hx hb dX5_isClosedBy_1 rfl hl (by decide) rfl (fun ls hl => ?_)
  exact L2 _ _ _ _ hf _ _ _ hP hD hS (lv_sub hl [1, 2, 0] rfl)
def L_X5_sumOfSet_5 (M : zMm) (P1 : zMm) (l2 : Int32) : Nat → Int32 → Int32 → Option (Int32 × Int32)
  | 0, _, _ => none
  | n + 1, l3, l4 => if (M 7 0) ≤ l4 then some (l3, l4) else zb1 (if ((l2 >>> (l4 &&& 31)) &&& 1) = 1 then zl 7 (P1 0) l4 (fun v6 => some v6) else some (0 : Int32)) (fun (y3 : Int32) => zv (l3 + y3) (fun (x7 : Int32) => zv (l4 + 1) (fun (x8 : Int32) => L_X5_sumOfSet_5 M P1 l2 n x7 x8)))
def f_X5_sumOfSet (M : zMm) (P1 : zMm) (a2 : Int32) : Option (Int32) := zb2 (L_X5_sumOfSet_5 M P1 a2 100000 0 0) (fun (x9 : Int32) (x10 : Int32) => some x9)
abbrev ww_X5_sumOfSet : List Cond := Cond.code yX5_sumOfSet cX5_sumOfSet 5 (some .int) :: wG
theorem q_X5_sumOfSet : yX5_sumOfSet.cls = RX5 ∧ yX5_sumOfSet.cls ≠ "java/lang/invoke/MethodHandle" ∧ yX5_sumOfSet.cls ≠ "java/lang/invoke/VarHandle" ∧ (parseMethodDescriptor yX5_sumOfSet.desc).map (fun d => d.parameters.length) = some 2 := by decide +kernel
set_option maxHeartbeats 4000000 in
set_option maxRecDepth 100000 in
theorem c_X5_sumOfSet (l : Launch) (D : va_G) (cI cB : ClassId) (hM : Nat → Nat) (hP1 : Nat → Nat) (M : zMm) (P1 : zMm) (a2 : Int32) (r0 : Int32) (hf : f_X5_sumOfSet M P1 a2 = some r0) : zMi l yX5_sumOfSet ww_X5_sumOfSet ({ frames := 0, cells := 0, slots := 0, locals := 0 } : Room) D cI cB [.ref (hM 0), .ref (hP1 0), .int a2] ([k5_0 cI cB hM M] ++ wA7 cI cB hP1 P1) r0 ([k5_0 cI cB hM M] ++ wA7 cI cB hP1 P1) := by
  refine zofI (cc := cX5_sumOfSet) (maxL := 5) (ret := (some .int)) (by decide +kernel) rfl (Nat.le_of_ble_eq_true rfl) ?_
  intro p e s m below meth c A ls hx hb hml hr hown hts hlocks hK hP hD hS hA hl
  have hl : lv_has ls 5 [(0, .ref (hM 0)), (1, .ref (hP1 0)), (2, .int a2)] := hl
  have hown : s.vm.findClass RX5 = some m.cls := hown
  have hG : ∀ w ∈ wG, w ∈ ww_X5_sumOfSet := fun w h => List.mem_cons_of_mem _ h
  have hi5 : ∀ w ∈ wsX50, w ∈ ww_X5_sumOfSet := fun w h => List.mem_cons_of_mem _ (z_inX5 w h)
  have L5 : ∀ (M : zMm) (P1 : zMm) (l2 : Int32) (n : Nat) (l3 : Int32) (l4 : Int32) (o3 : Int32) (o4 : Int32), L_X5_sumOfSet_5 M P1 l2 n l3 l4 = some (o3, o4) → zAt p l e ({ frames := 0, cells := 0, slots := 0, locals := 0 } : Room) s m [.ref (hM 0), .ref (hP1 0), .int a2].toArray below meth c (MQ below (zQi D cI cB r0 ([k5_0 cI cB hM M] ++ wA7 cI cB hP1 P1) A) [.ref (hM 0), .ref (hP1 0), .int a2].toArray s 0 0 A) A D 5 ([k5_0 cI cB hM M] ++ wA7 cI cB hP1 P1) [(0, .ref (hM 0)), (1, .ref (hP1 0)), (2, .int l2), (3, .int o3), (4, .int o4)] 41 [] → zAt p l e ({ frames := 0, cells := 0, slots := 0, locals := 0 } : Room) s m [.ref (hM 0), .ref (hP1 0), .int a2].toArray below meth c (MQ below (zQi D cI cB r0 ([k5_0 cI cB hM M] ++ wA7 cI cB hP1 P1) A) [.ref (hM 0), .ref (hP1 0), .int a2].toArray s 0 0 A) A D 5 ([k5_0 cI cB hM M] ++ wA7 cI cB hP1 P1) [(0, .ref (hM 0)), (1, .ref (hP1 0)), (2, .int l2), (3, .int l3), (4, .int l4)] 5 [] := by
    intro M P1 l2 n
    induction n with
    | zero => intro l3 l4 o3 o4 hf; simp [L_X5_sumOfSet_5] at hf
    | succ n ih =>
      intro l3 l4 o3 o4 hf hk H locs ls hP hD hS hl
      rw [L_X5_sumOfSet_5] at hf
      refine lv_iload hx hb dX5_sumOfSet_5 (lv_at hl 4 rfl) ?_
      refine lv_aload_n hx hb dX5_sumOfSet_7 rfl (lv_at hl 0 rfl) ?_
      refine va_get (D := D) (ci := 5) (v := .int (M 7 0)) (C := RX5) (T := TX5) (N := 12) hx hb hts hi5 hown hK hP 0 rfl rfl 7 (Nat.le_of_ble_eq_true rfl) (hts _ (List.mem_cons_of_mem _ wd_194)) (fun _ h9 => h9) rfl dX5_sumOfSet_8 ?_
      refine lv_icmp_ge (tgt := 41) hx hb dX5_sumOfSet_11 (by decide) (fun c_1 => ?_) (fun c_1 => ?_)
      · replace hf := zit c_1 hf
        cases hf
        exact hk _ _ _ hP hD hS (lv_sub hl [0, 1, 2, 3, 4] rfl)
      · replace hf := zif c_1 hf
        refine lv_iload_n hx hb dX5_sumOfSet_14 rfl (lv_at hl 3 rfl) ?_
        refine lv_iload_n hx hb dX5_sumOfSet_15 rfl (lv_at hl 2 rfl) ?_
        refine lv_iload hx hb dX5_sumOfSet_16 (lv_at hl 4 rfl) ?_
        refine lv_ishr hx hb dX5_sumOfSet_18 ?_
        refine lv_iconst (v := 1) hx hb dX5_sumOfSet_19 (by decide) ?_
        refine lv_iand hx hb dX5_sumOfSet_20 ?_
        refine lv_iconst (v := 1) hx hb dX5_sumOfSet_21 (by decide) ?_
        obtain ⟨y3, hq4, hf⟩ := zb1_some hf
        have J5 : zAt p l e ({ frames := 0, cells := 0, slots := 0, locals := 0 } : Room) s m [.ref (hM 0), .ref (hP1 0), .int a2].toArray below meth c (MQ below (zQi D cI cB r0 ([k5_0 cI cB hM M] ++ wA7 cI cB hP1 P1) A) [.ref (hM 0), .ref (hP1 0), .int a2].toArray s 0 0 A) A D 5 ([k5_0 cI cB hM M] ++ wA7 cI cB hP1 P1) [(0, .ref (hM 0)), (1, .ref (hP1 0)), (2, .int l2), (3, .int l3), (4, .int l4)] 33 [.int y3, .int l3] := by
          intro H locs ls hP hD hS hl
          refine lv_iadd hx hb dX5_sumOfSet_33 ?_
          obtain ⟨x7, e_x7, hf⟩ := zv_some hf
          refine zt e_x7 ?_
          refine lv_istore_n (lv' := [(3, .int x7), (0, .ref (hM 0)), (1, .ref (hP1 0)), (2, .int l2), (4, .int l4)]) hx hb dX5_sumOfSet_34 rfl hl (by decide) rfl (fun ls hl => ?_)
          obtain ⟨x8, e_x8, hf⟩ := zv_some hf
          refine lv_iinc (v := x8) (lv' := [(4, .int x8), (3, .int x7), (0, .ref (hM 0)), (1, .ref (hP1 0)), (2, .int l2)]) hx hb dX5_sumOfSet_35 hl (k := 4) rfl (by rw [e_x8]; rfl) (by decide) rfl (fun ls hl => ?_)
          refine lv_goto (tgt := 5) hx hb dX5_sumOfSet_38 (by decide) ?_
          exact ih _ _ _ _ hf hk _ _ _ hP hD hS (lv_sub hl [2, 3, 4, 1, 0] rfl)
        replace hf := hq4
        refine lv_icmp_ne (tgt := 32) hx hb dX5_sumOfSet_22 (by decide) (fun c_2 => ?_) (fun c_2 => ?_)
        · replace hf := zif c_2 hf
          refine lv_iconst (v := 0) hx hb dX5_sumOfSet_32 (by decide) ?_
          cases hf
          exact J5 _ _ _ hP hD hS (lv_sub hl [0, 1, 2, 3, 4] rfl)
        · replace hf := zit c_2 hf
          refine lv_aload_n hx hb dX5_sumOfSet_25 rfl (lv_at hl 1 rfl) ?_
          refine lv_iload hx hb dX5_sumOfSet_26 (lv_at hl 4 rfl) ?_
          obtain ⟨i_v6, v6, e_v6, hf⟩ := zl_some hf
          refine va_iald (n := 7) (f := P1 0) (cA := cI) hx hb hK hP 1 0 rfl rfl i_v6 dX5_sumOfSet_28 ?_
          refine zt e_v6 ?_
          refine lv_goto (tgt := 33) hx hb dX5_sumOfSet_29 (by decide) ?_
          cases hf
          exact J5 _ _ _ hP hD hS (lv_sub hl [0, 1, 2, 3, 4] rfl)
  unfold f_X5_sumOfSet at hf
  refine lv_iconst (v := 0) hx hb dX5_sumOfSet_0 (by decide) ?_
  refine lv_istore_n (lv' := [(3, .int 0), (0, .ref (hM 0)), (1, .ref (hP1 0)), (2, .int a2)]) hx hb dX5_sumOfSet_1 rfl hl (by decide) rfl (fun ls hl => ?_)
  refine lv_iconst (v := 0) hx hb dX5_sumOfSet_2 (by decide) ?_
  refine lv_istore (lv' := [(4, .int 0), (3, .int 0), (0, .ref (hM 0)), (1, .ref (hP1 0)), (2, .int a2)]) hx hb dX5_sumOfSet_3 hl (by decide) rfl (fun ls hl => ?_)
  obtain ⟨x9, x10, hq11, hf⟩ := zb2_some hf
  refine L5 _ _ _ _ _ _ _ _ hq11 ?_ _ _ _ hP hD hS (lv_sub hl [2, 3, 4, 1, 0] rfl)
  intro H locs ls hP hD hS hl
  refine lv_iload_n hx hb dX5_sumOfSet_41 rfl (lv_at hl 3 rfl) ?_
  cases hf
  exact zretI hx hb hr hlocks hK hP hD hS dX5_sumOfSet_42
