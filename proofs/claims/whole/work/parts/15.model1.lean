def f_X9_in (a0 : Int64) (a2 : Int64) (a4 : Int64) : Option (Int32) := if (lg_cmp a0 a2) < 0 then some (0 : Int32) else if (0 : Int32) < (lg_cmp a0 a4) then some (0 : Int32) else some (1 : Int32)
abbrev ww_X9_in : List Cond := Cond.code yX9_in cX9_in 6 (some .boolean) :: wG
theorem q_X9_in : yX9_in.cls ≠ "java/lang/invoke/MethodHandle" ∧ yX9_in.cls ≠ "java/lang/invoke/VarHandle" ∧ (parseMethodDescriptor yX9_in.desc).map (fun d => d.parameters.length) = some 3 := by decide +kernel
set_option maxHeartbeats 4000000 in
set_option maxRecDepth 100000 in
theorem c_X9_in (l : Launch) (D : va_G) (cI cB : ClassId)  (a0 : Int64) (a2 : Int64) (a4 : Int64) (r0 : Int32) (hf : f_X9_in a0 a2 a4 = some r0) : zMi l yX9_in ww_X9_in ({ frames := 0, cells := 0, slots := 0, locals := 0 } : Room) D cI cB [.long a0, .long a2, .long a4] [] r0 [] := by
  refine zofI (cc := cX9_in) (maxL := 6) (ret := (some .boolean)) (by decide +kernel) rfl (Nat.le_of_ble_eq_true rfl) ?_
  intro p e s m below meth c A ls hx hb hml hr hown hts hlocks hK hP hD hS hA hl
  have hl : lv_has ls 6 [(0, .long a0), (2, .long a2), (4, .long a4)] := hl
  have hown : s.vm.findClass RX9 = some m.cls := hown
  have hG : ∀ w ∈ wG, w ∈ ww_X9_in := fun w h => List.mem_cons_of_mem _ h
  unfold f_X9_in at hf
  refine lv_lload_n hx hb dX9_in_0 rfl (lv_at hl 0 rfl) ?_
  refine lv_lload_n hx hb dX9_in_1 rfl (lv_at hl 1 rfl) ?_
  refine W.lcmp hx hb dX9_in_2 ?_
  refine lv_if_lt (tgt := 17) hx hb dX9_in_3 (by decide) (fun c_1 => ?_) (fun c_1 => ?_)
  · replace hf := zit c_1 hf
    refine lv_iconst (v := 0) hx hb dX9_in_17 (by decide) ?_
    cases hf
    exact zretB hx hb hr hlocks rfl hK hP hD hS dX9_in_18
  · replace hf := zif c_1 hf
    refine lv_lload_n hx hb dX9_in_6 rfl (lv_at hl 0 rfl) ?_
    refine lv_lload hx hb dX9_in_7 (lv_at hl 2 rfl) ?_
    refine W.lcmp hx hb dX9_in_9 ?_
    refine lv_if_gt (tgt := 17) hx hb dX9_in_10 (by decide) (fun c_2 => ?_) (fun c_2 => ?_)
    · replace hf := zit c_2 hf
      refine lv_iconst (v := 0) hx hb dX9_in_17 (by decide) ?_
      cases hf
      exact zretB hx hb hr hlocks rfl hK hP hD hS dX9_in_18
    · replace hf := zif c_2 hf
      refine lv_iconst (v := 1) hx hb dX9_in_13 (by decide) ?_
      refine lv_goto (tgt := 18) hx hb dX9_in_14 (by decide) ?_
      cases hf
      exact zretB hx hb hr hlocks rfl hK hP hD hS dX9_in_18
def L_X9_write_34 (l1 : Int32) (l2 : Int64) : Nat → Int32 → zMm → Option (Int32 × zMm)
  | 0, _, _ => none
  | n + 1, l4, M => if l4 < 0 then some (l4, M) else zw 300 M 1 (M 0 0) (vp_nar .byte (((l2 >>> (((8 : Int32) * l4).toInt64 &&& 63)).toInt32).toInt8.toInt32)) (fun M_7 => zv (zs M_7 0 (fun _ => (M_7 0 0) + 1)) (fun (M_8 : zMm) => zv (l4 + (-1)) (fun (x9 : Int32) => L_X9_write_34 l1 l2 n x9 M_8)))
def f_X9_write (M : zMm) (a1 : Int32) (a2 : Int64) : Option (Int32 × zMm) := zb1 (f_X9_in (a1.toInt64) 1 8) (fun (r1 : Int32) => if r1 = 0 then some (((-1) : Int32), M) else if ((M 0 0) + a1) ≤ 300 then zv (a1 - 1) (fun (x5 : Int32) => zb2 (L_X9_write_34 a1 a2 100000 x5 M) (fun (x10 : Int32) (M_11 : zMm) => some (M_11 0 0, M_11))) else some (((-3) : Int32), M))
abbrev ww_X9_write : List Cond := Cond.code yX9_write cX9_write 5 (some .int) :: wG
theorem q_X9_write : yX9_write.cls = RX9 ∧ yX9_write.cls ≠ "java/lang/invoke/MethodHandle" ∧ yX9_write.cls ≠ "java/lang/invoke/VarHandle" ∧ (parseMethodDescriptor yX9_write.desc).map (fun d => d.parameters.length) = some 2 := by decide +kernel
set_option maxHeartbeats 4000000 in
set_option maxRecDepth 100000 in
theorem c_X9_write (l : Launch) (D : va_G) (cI cB : ClassId) (hM : Nat → Nat) (M : zMm) (a1 : Int32) (a2 : Int64) (r0 : Int32) (M0 : zMm) (hf : f_X9_write M a1 a2 = some (r0, M0)) : zMi l yX9_write ww_X9_write ({ frames := 1, cells := 0, slots := 0, locals := 25 } : Room) D cI cB [.ref (hM 0), .int a1, .long a2] (w9 cI cB hM M) r0 (w9 cI cB hM M0) := by
  refine zofI (cc := cX9_write) (maxL := 5) (ret := (some .int)) (by decide +kernel) rfl (Nat.le_of_ble_eq_true rfl) ?_
  intro p e s m below meth c A ls hx hb hml hr hown hts hlocks hK hP hD hS hA hl
  have hl : lv_has ls 5 [(0, .ref (hM 0)), (1, .int a1), (2, .long a2)] := hl
  have hown : s.vm.findClass RX9 = some m.cls := hown
  have hG : ∀ w ∈ wG, w ∈ ww_X9_write := fun w h => List.mem_cons_of_mem _ h
  have hi9 : ∀ w ∈ wsX90, w ∈ ww_X9_write := fun w h => List.mem_cons_of_mem _ (z_inX9 w h)
  have L34 : ∀ (l1 : Int32) (l2 : Int64) (n : Nat) (l4 : Int32) (M : zMm) (o4 : Int32) (oM : zMm), L_X9_write_34 l1 l2 n l4 M = some (o4, oM) → zAt p l e ({ frames := 1, cells := 0, slots := 0, locals := 25 } : Room) s m [.ref (hM 0), .int a1, .long a2].toArray below meth c (MQ below (zQi D cI cB r0 (w9 cI cB hM M0) A) [.ref (hM 0), .int a1, .long a2].toArray s 0 0 A) A D 5 (w9 cI cB hM oM) [(0, .ref (hM 0)), (1, .int l1), (2, .long l2), (4, .int o4)] 73 [] → zAt p l e ({ frames := 1, cells := 0, slots := 0, locals := 25 } : Room) s m [.ref (hM 0), .int a1, .long a2].toArray below meth c (MQ below (zQi D cI cB r0 (w9 cI cB hM M0) A) [.ref (hM 0), .int a1, .long a2].toArray s 0 0 A) A D 5 (w9 cI cB hM M) [(0, .ref (hM 0)), (1, .int l1), (2, .long l2), (4, .int l4)] 34 [] := by
    intro l1 l2 n
    induction n with
    | zero => intro l4 M o4 oM hf; simp [L_X9_write_34] at hf
    | succ n ih =>
      intro l4 M o4 oM hf hk H locs ls hP hD hS hl
      rw [L_X9_write_34] at hf
      refine lv_iload hx hb dX9_write_34 (lv_at hl 3 rfl) ?_
      refine lv_if_lt (tgt := 73) hx hb dX9_write_36 (by decide) (fun c_6 => ?_) (fun c_6 => ?_)
      · replace hf := zit c_6 hf
        cases hf
        exact hk _ _ _ hP hD hS (lv_sub hl [0, 1, 2, 3] rfl)
      · replace hf := zif c_6 hf
        refine lv_aload_n hx hb dX9_write_39 rfl (lv_at hl 0 rfl) ?_
        refine va_get (D := D) (ci := 9) (v := .ref (hM 1)) (C := RX9) (T := TX9) (N := 23) hx hb hts hi9 hown hK hP 0 rfl rfl 1 (Nat.le_of_ble_eq_true rfl) (hts _ (List.mem_cons_of_mem _ wd_653)) (fun _ h9 => h9) rfl dX9_write_40 ?_
        refine lv_aload_n hx hb dX9_write_43 rfl (lv_at hl 0 rfl) ?_
        refine va_get (D := D) (ci := 9) (v := .int (M 0 0)) (C := RX9) (T := TX9) (N := 23) hx hb hts hi9 hown hK hP 0 rfl rfl 0 (Nat.le_of_ble_eq_true rfl) (hts _ (List.mem_cons_of_mem _ wd_652)) (fun _ h9 => h9) rfl dX9_write_44 ?_
        refine lv_lload_n hx hb dX9_write_47 rfl (lv_at hl 2 rfl) ?_
        refine lv_bipush (v := 8) hx hb dX9_write_48 (by decide) ?_
        refine lv_iload hx hb dX9_write_50 (lv_at hl 3 rfl) ?_
        refine lv_imul hx hb dX9_write_52 ?_
        refine lv_lshr (v := l2 >>> (((8 : Int32) * l4).toInt64 &&& 63)) hx hb dX9_write_53 rfl ?_
        refine lv_l2i hx hb dX9_write_54 rfl ?_
        refine lv_i2b hx hb dX9_write_55 rfl ?_
        obtain ⟨i_M_7, M_7, e_M_7, hf⟩ := zw_some hf
        refine va_bast (n := 300) (f := M 1) (cA := cB) hx hb hK hP hD hS 1 1 rfl rfl i_M_7 dX9_write_56 (fun H locs hP hD hS => ?_)
        have hP : va_P D vwCl (w9 cI cB hM (zs M 1 (upd (M 1) (M 0 0).toNatClampNeg (vp_nar .byte (((l2 >>> (((8 : Int32) * l4).toInt64 &&& 63)).toInt32).toInt8.toInt32))))) H := hP
        have hD : va_D A (w9 cI cB hM (zs M 1 (upd (M 1) (M 0 0).toNatClampNeg (vp_nar .byte (((l2 >>> (((8 : Int32) * l4).toInt64 &&& 63)).toInt32).toInt8.toInt32))))) := hD
        rw [← e_M_7] at hP hD
        refine lv_aload_n hx hb dX9_write_57 rfl (lv_at hl 0 rfl) ?_
        refine lv_dup hx hb dX9_write_58 rfl ?_
        refine va_get (D := D) (ci := 9) (v := .int (M_7 0 0)) (C := RX9) (T := TX9) (N := 23) hx hb hts hi9 hown hK hP 0 rfl rfl 0 (Nat.le_of_ble_eq_true rfl) (hts _ (List.mem_cons_of_mem _ wd_652)) (fun _ h9 => h9) rfl dX9_write_59 ?_
        refine lv_iconst (v := 1) hx hb dX9_write_62 (by decide) ?_
        refine lv_iadd hx hb dX9_write_63 ?_
        obtain ⟨M_8, e_M_8, hf⟩ := zv_some hf
        refine va_put (D := D) (ci := 9) (v := .int ((M_7 0 0) + 1)) (ty := .int) (C := RX9) (T := TX9) (N := 23) hx hb hts hi9 tyX9 tyX9_ok nmX9 hown hK hP hD hS 0 rfl rfl 0 (Nat.le_of_ble_eq_true rfl) (hts _ (List.mem_cons_of_mem _ wd_652)) (fun _ h9 => h9) rfl (by decide +kernel) rfl rfl (Nat.le_of_ble_eq_true rfl) dX9_write_64 (fun H locs hP hD hS => ?_)
        have hP : va_P D vwCl (w9 cI cB hM (zs M_7 0 (fun _ => (M_7 0 0) + 1))) H := hP
        have hD : va_D A (w9 cI cB hM (zs M_7 0 (fun _ => (M_7 0 0) + 1))) := hD
        rw [← e_M_8] at hP hD
        obtain ⟨x9, e_x9, hf⟩ := zv_some hf
        refine lv_iinc (v := x9) (lv' := [(4, .int x9), (0, .ref (hM 0)), (1, .int l1), (2, .long l2)]) hx hb dX9_write_67 hl (k := 3) rfl (by rw [e_x9]; rfl) (by decide) rfl (fun ls hl => ?_)
        refine lv_goto (tgt := 34) hx hb dX9_write_70 (by decide) ?_
        exact ih _ _ _ _ hf hk _ _ _ hP hD hS (lv_sub hl [1, 2, 3, 0] rfl)
  unfold f_X9_write at hf
  refine lv_iload_n hx hb dX9_write_0 rfl (lv_at hl 1 rfl) ?_
  refine lv_i2l hx hb dX9_write_1 rfl ?_
  refine lv_lconst (v := 1) hx hb dX9_write_2 (by decide) ?_
  refine lv_ldc2 (v := 8) hx hb hown (hts _ (List.mem_cons_of_mem _ wd_726)) dX9_write_3 ?_
  obtain ⟨r1, hq2, hf⟩ := zb1_some hf
  refine zcallSi (rest := []) ⟨hx, hb, hml, hown, hts⟩ (c_X9_in l D cI cB (a1.toInt64) 1 8 r1 hq2) (z_cwS 3 hts (z_gS hG wd_727 wd_728 wd_15 wd_729) rfl rfl rfl q_X9_in ⟨Nat.le_of_ble_eq_true rfl, Nat.le_of_ble_eq_true rfl⟩) hK hP hD hS hA rfl hl.1 (Nat.le_of_ble_eq_true rfl) dX9_write_6 ⟨Nat.zero_le _, Nat.zero_le _⟩ rfl (fun H locs hP hD hS => ?_)
  refine lv_if_ne (tgt := 14) hx hb dX9_write_9 (by decide) (fun c_3 => ?_) (fun c_3 => ?_)
  · replace hf := zif c_3 hf
    refine lv_aload_n hx hb dX9_write_14 rfl (lv_at hl 0 rfl) ?_
    refine va_get (D := D) (ci := 9) (v := .int (M 0 0)) (C := RX9) (T := TX9) (N := 23) hx hb hts hi9 hown hK hP 0 rfl rfl 0 (Nat.le_of_ble_eq_true rfl) (hts _ (List.mem_cons_of_mem _ wd_652)) (fun _ h9 => h9) rfl dX9_write_15 ?_
    refine lv_iload_n hx hb dX9_write_18 rfl (lv_at hl 1 rfl) ?_
    refine lv_iadd hx hb dX9_write_19 ?_
    refine lv_sipush (v := 300) hx hb dX9_write_20 (by decide) ?_
    refine lv_icmp_le (tgt := 29) hx hb dX9_write_23 (by decide) (fun c_4 => ?_) (fun c_4 => ?_)
    · replace hf := zit c_4 hf
      refine lv_iload_n hx hb dX9_write_29 rfl (lv_at hl 1 rfl) ?_
      refine lv_iconst (v := 1) hx hb dX9_write_30 (by decide) ?_
      refine lv_isub hx hb dX9_write_31 ?_
      obtain ⟨x5, e_x5, hf⟩ := zv_some hf
      refine zt e_x5 ?_
      refine lv_istore (lv' := [(4, .int x5), (0, .ref (hM 0)), (1, .int a1), (2, .long a2)]) hx hb dX9_write_32 hl (by decide) rfl (fun ls hl => ?_)
      obtain ⟨x10, M_11, hq12, hf⟩ := zb2_some hf
      refine L34 _ _ _ _ _ _ _ hq12 ?_ _ _ _ hP hD hS (lv_sub hl [1, 2, 3, 0] rfl)
      intro H locs ls hP hD hS hl
      refine lv_aload_n hx hb dX9_write_73 rfl (lv_at hl 0 rfl) ?_
      refine va_get (D := D) (ci := 9) (v := .int (M_11 0 0)) (C := RX9) (T := TX9) (N := 23) hx hb hts hi9 hown hK hP 0 rfl rfl 0 (Nat.le_of_ble_eq_true rfl) (hts _ (List.mem_cons_of_mem _ wd_652)) (fun _ h9 => h9) rfl dX9_write_74 ?_
      cases hf
      exact zretI hx hb hr hlocks hK hP hD hS dX9_write_77
    · replace hf := zif c_4 hf
      refine lv_bipush (v := (-3)) hx hb dX9_write_26 (by decide) ?_
      cases hf
      exact zretI hx hb hr hlocks hK hP hD hS dX9_write_28
  · replace hf := zit c_3 hf
    refine lv_iconst (v := (-1)) hx hb dX9_write_12 (by decide) ?_
    cases hf
    exact zretI hx hb hr hlocks hK hP hD hS dX9_write_13
def f_X9_wipe (M : zMm) : Option (Int32 × zMm) := zv (M 0 0) (fun (x1 : Int32) => zv (zs M 0 (fun _ => 0)) (fun (M_2 : zMm) => some (x1, M_2)))
abbrev ww_X9_wipe : List Cond := Cond.code yX9_wipe cX9_wipe 2 (some .int) :: wG
theorem q_X9_wipe : yX9_wipe.cls = RX9 ∧ yX9_wipe.cls ≠ "java/lang/invoke/MethodHandle" ∧ yX9_wipe.cls ≠ "java/lang/invoke/VarHandle" ∧ (parseMethodDescriptor yX9_wipe.desc).map (fun d => d.parameters.length) = some 0 := by decide +kernel
set_option maxHeartbeats 4000000 in
set_option maxRecDepth 100000 in
theorem c_X9_wipe (l : Launch) (D : va_G) (cI cB : ClassId) (hM : Nat → Nat) (M : zMm) (r0 : Int32) (M0 : zMm) (hf : f_X9_wipe M = some (r0, M0)) : zMi l yX9_wipe ww_X9_wipe ({ frames := 0, cells := 0, slots := 0, locals := 0 } : Room) D cI cB [.ref (hM 0)] (w9 cI cB hM M) r0 (w9 cI cB hM M0) := by
  refine zofI (cc := cX9_wipe) (maxL := 2) (ret := (some .int)) (by decide +kernel) rfl (Nat.le_of_ble_eq_true rfl) ?_
  intro p e s m below meth c A ls hx hb hml hr hown hts hlocks hK hP hD hS hA hl
  have hl : lv_has ls 2 [(0, .ref (hM 0))] := hl
  have hown : s.vm.findClass RX9 = some m.cls := hown
  have hG : ∀ w ∈ wG, w ∈ ww_X9_wipe := fun w h => List.mem_cons_of_mem _ h
  have hi9 : ∀ w ∈ wsX90, w ∈ ww_X9_wipe := fun w h => List.mem_cons_of_mem _ (z_inX9 w h)
  unfold f_X9_wipe at hf
  refine lv_aload_n hx hb dX9_wipe_0 rfl (lv_at hl 0 rfl) ?_
  refine va_get (D := D) (ci := 9) (v := .int (M 0 0)) (C := RX9) (T := TX9) (N := 23) hx hb hts hi9 hown hK hP 0 rfl rfl 0 (Nat.le_of_ble_eq_true rfl) (hts _ (List.mem_cons_of_mem _ wd_652)) (fun _ h9 => h9) rfl dX9_wipe_1 ?_
  obtain ⟨x1, e_x1, hf⟩ := zv_some hf
  refine zt e_x1 ?_
  refine lv_istore_n (lv' := [(1, .int x1), (0, .ref (hM 0))]) hx hb dX9_wipe_4 rfl hl (by decide) rfl (fun ls hl => ?_)
  refine lv_aload_n hx hb dX9_wipe_5 rfl (lv_at hl 1 rfl) ?_
  refine lv_iconst (v := 0) hx hb dX9_wipe_6 (by decide) ?_
  obtain ⟨M_2, e_M_2, hf⟩ := zv_some hf
  refine va_put (D := D) (ci := 9) (v := .int 0) (ty := .int) (C := RX9) (T := TX9) (N := 23) hx hb hts hi9 tyX9 tyX9_ok nmX9 hown hK hP hD hS 0 rfl rfl 0 (Nat.le_of_ble_eq_true rfl) (hts _ (List.mem_cons_of_mem _ wd_652)) (fun _ h9 => h9) rfl (by decide +kernel) rfl rfl (Nat.le_of_ble_eq_true rfl) dX9_wipe_7 (fun H locs hP hD hS => ?_)
  have hP : va_P D vwCl (w9 cI cB hM (zs M 0 (fun _ => 0))) H := hP
  have hD : va_D A (w9 cI cB hM (zs M 0 (fun _ => 0))) := hD
  rw [← e_M_2] at hP hD
  refine lv_iload_n hx hb dX9_wipe_10 rfl (lv_at hl 0 rfl) ?_
  cases hf
  exact zretI hx hb hr hlocks hK hP hD hS dX9_wipe_11
def f_X9_numbers (a0 : Int32) : Option (Int32) := if a0 = 112 then some (3 : Int32) else if a0 = 115 then some (2 : Int32) else if a0 = 116 then some (1 : Int32) else if a0 = 103 then some (1 : Int32) else if a0 = 122 then some (1 : Int32) else if a0 = 99 then some (1 : Int32) else some (0 : Int32)
abbrev ww_X9_numbers : List Cond := Cond.code yX9_numbers cX9_numbers 1 (some .int) :: wG
theorem q_X9_numbers : yX9_numbers.cls ≠ "java/lang/invoke/MethodHandle" ∧ yX9_numbers.cls ≠ "java/lang/invoke/VarHandle" ∧ (parseMethodDescriptor yX9_numbers.desc).map (fun d => d.parameters.length) = some 1 := by decide +kernel
set_option maxHeartbeats 4000000 in
set_option maxRecDepth 100000 in
theorem c_X9_numbers (l : Launch) (D : va_G) (cI cB : ClassId)  (a0 : Int32) (r0 : Int32) (hf : f_X9_numbers a0 = some r0) : zMi l yX9_numbers ww_X9_numbers ({ frames := 0, cells := 0, slots := 0, locals := 0 } : Room) D cI cB [.int a0] [] r0 [] := by
  refine zofI (cc := cX9_numbers) (maxL := 1) (ret := (some .int)) (by decide +kernel) rfl (Nat.le_of_ble_eq_true rfl) ?_
  intro p e s m below meth c A ls hx hb hml hr hown hts hlocks hK hP hD hS hA hl
  have hl : lv_has ls 1 [(0, .int a0)] := hl
  have hown : s.vm.findClass RX9 = some m.cls := hown
  have hG : ∀ w ∈ wG, w ∈ ww_X9_numbers := fun w h => List.mem_cons_of_mem _ h
  unfold f_X9_numbers at hf
  refine lv_iload_n hx hb dX9_numbers_0 rfl (lv_at hl 0 rfl) ?_
  refine lv_bipush (v := 112) hx hb dX9_numbers_1 (by decide) ?_
  refine lv_icmp_ne (tgt := 10) hx hb dX9_numbers_3 (by decide) (fun c_1 => ?_) (fun c_1 => ?_)
  · replace hf := zif c_1 hf
    refine lv_iload_n hx hb dX9_numbers_10 rfl (lv_at hl 0 rfl) ?_
    refine lv_bipush (v := 115) hx hb dX9_numbers_11 (by decide) ?_
    refine lv_icmp_ne (tgt := 20) hx hb dX9_numbers_13 (by decide) (fun c_2 => ?_) (fun c_2 => ?_)
    · replace hf := zif c_2 hf
      refine lv_iload_n hx hb dX9_numbers_20 rfl (lv_at hl 0 rfl) ?_
      refine lv_bipush (v := 116) hx hb dX9_numbers_21 (by decide) ?_
      refine lv_icmp_eq (tgt := 44) hx hb dX9_numbers_23 (by decide) (fun c_3 => ?_) (fun c_3 => ?_)
      · replace hf := zit c_3 hf
        refine lv_iconst (v := 1) hx hb dX9_numbers_44 (by decide) ?_
        refine lv_goto (tgt := 49) hx hb dX9_numbers_45 (by decide) ?_
        cases hf
        exact zretI hx hb hr hlocks hK hP hD hS dX9_numbers_49
      · replace hf := zif c_3 hf
        refine lv_iload_n hx hb dX9_numbers_26 rfl (lv_at hl 0 rfl) ?_
        refine lv_bipush (v := 103) hx hb dX9_numbers_27 (by decide) ?_
        refine lv_icmp_eq (tgt := 44) hx hb dX9_numbers_29 (by decide) (fun c_4 => ?_) (fun c_4 => ?_)
        · replace hf := zit c_4 hf
          refine lv_iconst (v := 1) hx hb dX9_numbers_44 (by decide) ?_
          refine lv_goto (tgt := 49) hx hb dX9_numbers_45 (by decide) ?_
          cases hf
          exact zretI hx hb hr hlocks hK hP hD hS dX9_numbers_49
        · replace hf := zif c_4 hf
          refine lv_iload_n hx hb dX9_numbers_32 rfl (lv_at hl 0 rfl) ?_
          refine lv_bipush (v := 122) hx hb dX9_numbers_33 (by decide) ?_
          refine lv_icmp_eq (tgt := 44) hx hb dX9_numbers_35 (by decide) (fun c_5 => ?_) (fun c_5 => ?_)
          · replace hf := zit c_5 hf
            refine lv_iconst (v := 1) hx hb dX9_numbers_44 (by decide) ?_
            refine lv_goto (tgt := 49) hx hb dX9_numbers_45 (by decide) ?_
            cases hf
            exact zretI hx hb hr hlocks hK hP hD hS dX9_numbers_49
          · replace hf := zif c_5 hf
            refine lv_iload_n hx hb dX9_numbers_38 rfl (lv_at hl 0 rfl) ?_
            refine lv_bipush (v := 99) hx hb dX9_numbers_39 (by decide) ?_
            refine lv_icmp_ne (tgt := 48) hx hb dX9_numbers_41 (by decide) (fun c_6 => ?_) (fun c_6 => ?_)
            · replace hf := zif c_6 hf
              refine lv_iconst (v := 0) hx hb dX9_numbers_48 (by decide) ?_
              cases hf
              exact zretI hx hb hr hlocks hK hP hD hS dX9_numbers_49
            · replace hf := zit c_6 hf
              refine lv_iconst (v := 1) hx hb dX9_numbers_44 (by decide) ?_
              refine lv_goto (tgt := 49) hx hb dX9_numbers_45 (by decide) ?_
              cases hf
              exact zretI hx hb hr hlocks hK hP hD hS dX9_numbers_49
    · replace hf := zit c_2 hf
      refine lv_iconst (v := 2) hx hb dX9_numbers_16 (by decide) ?_
      refine lv_goto (tgt := 49) hx hb dX9_numbers_17 (by decide) ?_
      cases hf
      exact zretI hx hb hr hlocks hK hP hD hS dX9_numbers_49
  · replace hf := zit c_1 hf
    refine lv_iconst (v := 3) hx hb dX9_numbers_6 (by decide) ?_
    refine lv_goto (tgt := 49) hx hb dX9_numbers_7 (by decide) ?_
    cases hf
    exact zretI hx hb hr hlocks hK hP hD hS dX9_numbers_49
def L_X9_number_4  : Nat → Int32 → Int32 → zMm → Option (Int32 × Int32 × zMm)
  | 0, _, _, _ => none
  | n + 1, l1, l2, M => if (M 0 0) ≤ (M 2 0) then some (l1, l2, M) else zl 300 (M 1) (M 2 0) (fun v2 => zb1 (f_X9_in (v2.toInt64) 48 57) (fun (r3 : Int32) => if r3 = 0 then some (l1, l2, M) else zb1 (if (3 : Int32) ≤ l2 then some l1 else zl 300 (M 1) (M 2 0) (fun v10 => some ((((10 : Int32) * l1) + v10) - 48))) (fun (y7 : Int32) => zv (l2 + 1) (fun (x11 : Int32) => zv (zs M 2 (fun _ => (M 2 0) + 1)) (fun (M_12 : zMm) => L_X9_number_4  n y7 x11 M_12)))))
def f_X9_number (M : zMm) : Option (Int32 × zMm) := zb3 (L_X9_number_4 100000 0 0 M) (fun (x13 : Int32) (x14 : Int32) (M_15 : zMm) => zb1 (f_X9_in (x14.toInt64) 1 3) (fun (r17 : Int32) => if r17 = 0 then some (((-1) : Int32), M_15) else some (x13, M_15)))
abbrev ww_X9_number : List Cond := Cond.code yX9_number cX9_number 3 (some .int) :: wG
theorem q_X9_number : yX9_number.cls = RX9 ∧ yX9_number.cls ≠ "java/lang/invoke/MethodHandle" ∧ yX9_number.cls ≠ "java/lang/invoke/VarHandle" ∧ (parseMethodDescriptor yX9_number.desc).map (fun d => d.parameters.length) = some 0 := by decide +kernel
set_option maxHeartbeats 4000000 in
set_option maxRecDepth 100000 in
theorem c_X9_number (l : Launch) (D : va_G) (cI cB : ClassId) (hM : Nat → Nat) (M : zMm) (r0 : Int32) (M0 : zMm) (hf : f_X9_number M = some (r0, M0)) : zMi l yX9_number ww_X9_number ({ frames := 1, cells := 0, slots := 0, locals := 25 } : Room) D cI cB [.ref (hM 0)] (w9 cI cB hM M) r0 (w9 cI cB hM M0) := by
  refine zofI (cc := cX9_number) (maxL := 3) (ret := (some .int)) (by decide +kernel) rfl (Nat.le_of_ble_eq_true rfl) ?_
  intro p e s m below meth c A ls hx hb hml hr hown hts hlocks hK hP hD hS hA hl
  have hl : lv_has ls 3 [(0, .ref (hM 0))] := hl
  have hown : s.vm.findClass RX9 = some m.cls := hown
  have hG : ∀ w ∈ wG, w ∈ ww_X9_number := fun w h => List.mem_cons_of_mem _ h
  have hi9 : ∀ w ∈ wsX90, w ∈ ww_X9_number := fun w h => List.mem_cons_of_mem _ (z_inX9 w h)
  have L4 : ∀  (n : Nat) (l1 : Int32) (l2 : Int32) (M : zMm) (o1 : Int32) (o2 : Int32) (oM : zMm), L_X9_number_4  n l1 l2 M = some (o1, o2, oM) → zAt p l e ({ frames := 1, cells := 0, slots := 0, locals := 25 } : Room) s m [.ref (hM 0)].toArray below meth c (MQ below (zQi D cI cB r0 (w9 cI cB hM M0) A) [.ref (hM 0)].toArray s 0 0 A) A D 3 (w9 cI cB hM oM) [(0, .ref (hM 0)), (1, .int o1), (2, .int o2)] 80 [] → zAt p l e ({ frames := 1, cells := 0, slots := 0, locals := 25 } : Room) s m [.ref (hM 0)].toArray below meth c (MQ below (zQi D cI cB r0 (w9 cI cB hM M0) A) [.ref (hM 0)].toArray s 0 0 A) A D 3 (w9 cI cB hM M) [(0, .ref (hM 0)), (1, .int l1), (2, .int l2)] 4 [] := by
    intro n
    induction n with
    | zero => intro l1 l2 M o1 o2 oM hf; simp [L_X9_number_4] at hf
    | succ n ih =>
      intro l1 l2 M o1 o2 oM hf hk H locs ls hP hD hS hl
      rw [L_X9_number_4] at hf
      refine lv_aload_n hx hb dX9_number_4 rfl (lv_at hl 0 rfl) ?_
      refine va_get (D := D) (ci := 9) (v := .int (M 2 0)) (C := RX9) (T := TX9) (N := 23) hx hb hts hi9 hown hK hP 0 rfl rfl 2 (Nat.le_of_ble_eq_true rfl) (hts _ (List.mem_cons_of_mem _ wd_654)) (fun _ h9 => h9) rfl dX9_number_5 ?_
      refine lv_aload_n hx hb dX9_number_8 rfl (lv_at hl 0 rfl) ?_
      refine va_get (D := D) (ci := 9) (v := .int (M 0 0)) (C := RX9) (T := TX9) (N := 23) hx hb hts hi9 hown hK hP 0 rfl rfl 0 (Nat.le_of_ble_eq_true rfl) (hts _ (List.mem_cons_of_mem _ wd_652)) (fun _ h9 => h9) rfl dX9_number_9 ?_
      refine lv_icmp_ge (tgt := 80) hx hb dX9_number_12 (by decide) (fun c_1 => ?_) (fun c_1 => ?_)
      · replace hf := zit c_1 hf
        cases hf
        exact hk _ _ _ hP hD hS (lv_sub hl [0, 1, 2] rfl)
      · replace hf := zif c_1 hf
        refine lv_aload_n hx hb dX9_number_15 rfl (lv_at hl 0 rfl) ?_
        refine va_get (D := D) (ci := 9) (v := .ref (hM 1)) (C := RX9) (T := TX9) (N := 23) hx hb hts hi9 hown hK hP 0 rfl rfl 1 (Nat.le_of_ble_eq_true rfl) (hts _ (List.mem_cons_of_mem _ wd_653)) (fun _ h9 => h9) rfl dX9_number_16 ?_
        refine lv_aload_n hx hb dX9_number_19 rfl (lv_at hl 0 rfl) ?_
        refine va_get (D := D) (ci := 9) (v := .int (M 2 0)) (C := RX9) (T := TX9) (N := 23) hx hb hts hi9 hown hK hP 0 rfl rfl 2 (Nat.le_of_ble_eq_true rfl) (hts _ (List.mem_cons_of_mem _ wd_654)) (fun _ h9 => h9) rfl dX9_number_20 ?_
        obtain ⟨i_v2, v2, e_v2, hf⟩ := zl_some hf
        refine va_bald (n := 300) (f := M 1) (cA := cB) hx hb hK hP 1 1 rfl rfl i_v2 dX9_number_23 ?_
        refine zt e_v2 ?_
        refine lv_i2l hx hb dX9_number_24 rfl ?_
        refine lv_ldc2 (v := 48) hx hb hown (hts _ (List.mem_cons_of_mem _ wd_749)) dX9_number_25 ?_
        refine lv_ldc2 (v := 57) hx hb hown (hts _ (List.mem_cons_of_mem _ wd_750)) dX9_number_28 ?_
        obtain ⟨r3, hq4, hf⟩ := zb1_some hf
        refine zcallSi (rest := []) ⟨hx, hb, hml, hown, hts⟩ (c_X9_in l D cI cB (v2.toInt64) 48 57 r3 hq4) (z_cwS 3 hts (z_gS hG wd_727 wd_728 wd_15 wd_729) rfl rfl rfl q_X9_in ⟨Nat.le_of_ble_eq_true rfl, Nat.le_of_ble_eq_true rfl⟩) hK hP hD hS hA rfl hl.1 (Nat.le_of_ble_eq_true rfl) dX9_number_31 ⟨Nat.zero_le _, Nat.zero_le _⟩ rfl (fun H locs hP hD hS => ?_)
        refine lv_if_eq (tgt := 80) hx hb dX9_number_34 (by decide) (fun c_5 => ?_) (fun c_5 => ?_)
        · replace hf := zit c_5 hf
          cases hf
          exact hk _ _ _ hP hD hS (lv_sub hl [0, 1, 2] rfl)
        · replace hf := zif c_5 hf
          refine lv_iload_n hx hb dX9_number_37 rfl (lv_at hl 2 rfl) ?_
          refine lv_iconst (v := 3) hx hb dX9_number_38 (by decide) ?_
          obtain ⟨y7, hq8, hf⟩ := zb1_some hf
          have J9 : zAt p l e ({ frames := 1, cells := 0, slots := 0, locals := 25 } : Room) s m [.ref (hM 0)].toArray below meth c (MQ below (zQi D cI cB r0 (w9 cI cB hM M0) A) [.ref (hM 0)].toArray s 0 0 A) A D 3 (w9 cI cB hM M) [(0, .ref (hM 0)), (1, .int l1), (2, .int l2)] 63 [.int y7] := by
            intro H locs ls hP hD hS hl
            refine lv_istore_n (lv' := [(1, .int y7), (0, .ref (hM 0)), (2, .int l2)]) hx hb dX9_number_63 rfl hl (by decide) rfl (fun ls hl => ?_)
            obtain ⟨x11, e_x11, hf⟩ := zv_some hf
            refine lv_iinc (v := x11) (lv' := [(2, .int x11), (1, .int y7), (0, .ref (hM 0))]) hx hb dX9_number_64 hl (k := 2) rfl (by rw [e_x11]; rfl) (by decide) rfl (fun ls hl => ?_)
            refine lv_aload_n hx hb dX9_number_67 rfl (lv_at hl 2 rfl) ?_
            refine lv_dup hx hb dX9_number_68 rfl ?_
            refine va_get (D := D) (ci := 9) (v := .int (M 2 0)) (C := RX9) (T := TX9) (N := 23) hx hb hts hi9 hown hK hP 0 rfl rfl 2 (Nat.le_of_ble_eq_true rfl) (hts _ (List.mem_cons_of_mem _ wd_654)) (fun _ h9 => h9) rfl dX9_number_69 ?_
            refine lv_iconst (v := 1) hx hb dX9_number_72 (by decide) ?_
            refine lv_iadd hx hb dX9_number_73 ?_
            obtain ⟨M_12, e_M_12, hf⟩ := zv_some hf
            refine va_put (D := D) (ci := 9) (v := .int ((M 2 0) + 1)) (ty := .int) (C := RX9) (T := TX9) (N := 23) hx hb hts hi9 tyX9 tyX9_ok nmX9 hown hK hP hD hS 0 rfl rfl 2 (Nat.le_of_ble_eq_true rfl) (hts _ (List.mem_cons_of_mem _ wd_654)) (fun _ h9 => h9) rfl (by decide +kernel) rfl rfl (Nat.le_of_ble_eq_true rfl) dX9_number_74 (fun H locs hP hD hS => ?_)
            have hP : va_P D vwCl (w9 cI cB hM (zs M 2 (fun _ => (M 2 0) + 1))) H := hP
            have hD : va_D A (w9 cI cB hM (zs M 2 (fun _ => (M 2 0) + 1))) := hD
            rw [← e_M_12] at hP hD
            refine lv_goto (tgt := 4) hx hb dX9_number_77 (by decide) ?_
            exact ih _ _ _ _ _ _ hf hk _ _ _ hP hD hS (lv_sub hl [2, 1, 0] rfl)
          replace hf := hq8
          refine lv_icmp_ge (tgt := 62) hx hb dX9_number_39 (by decide) (fun c_6 => ?_) (fun c_6 => ?_)
          · replace hf := zit c_6 hf
            refine lv_iload_n hx hb dX9_number_62 rfl (lv_at hl 1 rfl) ?_
            cases hf
            exact J9 _ _ _ hP hD hS (lv_sub hl [0, 1, 2] rfl)
          · replace hf := zif c_6 hf
            refine lv_bipush (v := 10) hx hb dX9_number_42 (by decide) ?_
            refine lv_iload_n hx hb dX9_number_44 rfl (lv_at hl 1 rfl) ?_
            refine lv_imul hx hb dX9_number_45 ?_
            refine lv_aload_n hx hb dX9_number_46 rfl (lv_at hl 0 rfl) ?_
            refine va_get (D := D) (ci := 9) (v := .ref (hM 1)) (C := RX9) (T := TX9) (N := 23) hx hb hts hi9 hown hK hP 0 rfl rfl 1 (Nat.le_of_ble_eq_true rfl) (hts _ (List.mem_cons_of_mem _ wd_653)) (fun _ h9 => h9) rfl dX9_number_47 ?_
            refine lv_aload_n hx hb dX9_number_50 rfl (lv_at hl 0 rfl) ?_
            refine va_get (D := D) (ci := 9) (v := .int (M 2 0)) (C := RX9) (T := TX9) (N := 23) hx hb hts hi9 hown hK hP 0 rfl rfl 2 (Nat.le_of_ble_eq_true rfl) (hts _ (List.mem_cons_of_mem _ wd_654)) (fun _ h9 => h9) rfl dX9_number_51 ?_
            obtain ⟨i_v10, v10, e_v10, hf⟩ := zl_some hf
            refine va_bald (n := 300) (f := M 1) (cA := cB) hx hb hK hP 1 1 rfl rfl i_v10 dX9_number_54 ?_
            refine zt e_v10 ?_
            refine lv_iadd hx hb dX9_number_55 ?_
            refine lv_bipush (v := 48) hx hb dX9_number_56 (by decide) ?_
            refine lv_isub hx hb dX9_number_58 ?_
            refine lv_goto (tgt := 63) hx hb dX9_number_59 (by decide) ?_
            cases hf
            exact J9 _ _ _ hP hD hS (lv_sub hl [0, 1, 2] rfl)
  unfold f_X9_number at hf
  refine lv_iconst (v := 0) hx hb dX9_number_0 (by decide) ?_
  refine lv_istore_n (lv' := [(1, .int 0), (0, .ref (hM 0))]) hx hb dX9_number_1 rfl hl (by decide) rfl (fun ls hl => ?_)
  refine lv_iconst (v := 0) hx hb dX9_number_2 (by decide) ?_
  refine lv_istore_n (lv' := [(2, .int 0), (1, .int 0), (0, .ref (hM 0))]) hx hb dX9_number_3 rfl hl (by decide) rfl (fun ls hl => ?_)
  obtain ⟨x13, x14, M_15, hq16, hf⟩ := zb3_some hf
  refine L4 _ _ _ _ _ _ _ hq16 ?_ _ _ _ hP hD hS (lv_sub hl [2, 1, 0] rfl)
  intro H locs ls hP hD hS hl
  refine lv_iload_n hx hb dX9_number_80 rfl (lv_at hl 2 rfl) ?_
  refine lv_i2l hx hb dX9_number_81 rfl ?_
  refine lv_lconst (v := 1) hx hb dX9_number_82 (by decide) ?_
  refine lv_ldc2 (v := 3) hx hb hown (hts _ (List.mem_cons_of_mem _ wd_751)) dX9_number_83 ?_
  obtain ⟨r17, hq18, hf⟩ := zb1_some hf
  refine zcallSi (rest := []) ⟨hx, hb, hml, hown, hts⟩ (c_X9_in l D cI cB (x14.toInt64) 1 3 r17 hq18) (z_cwS 3 hts (z_gS hG wd_727 wd_728 wd_15 wd_729) rfl rfl rfl q_X9_in ⟨Nat.le_of_ble_eq_true rfl, Nat.le_of_ble_eq_true rfl⟩) hK hP hD hS hA rfl hl.1 (Nat.le_of_ble_eq_true rfl) dX9_number_86 ⟨Nat.zero_le _, Nat.zero_le _⟩ rfl (fun H locs hP hD hS => ?_)
  refine lv_if_eq (tgt := 96) hx hb dX9_number_89 (by decide) (fun c_19 => ?_) (fun c_19 => ?_)
  · replace hf := zit c_19 hf
    refine lv_iconst (v := (-1)) hx hb dX9_number_96 (by decide) ?_
    cases hf
    exact zretI hx hb hr hlocks hK hP hD hS dX9_number_97
  · replace hf := zif c_19 hf
    refine lv_iload_n hx hb dX9_number_92 rfl (lv_at hl 1 rfl) ?_
    refine lv_goto (tgt := 97) hx hb dX9_number_93 (by decide) ?_
    cases hf
    exact zretI hx hb hr hlocks hK hP hD hS dX9_number_97
def L_X9_isGood_128 (l1 : Int32) (l2 : Int32) : Nat → Int32 → zMm → Option (Int32 × zMm)
  | 0, _, _ => none
  | n + 1, l3, M => if (3 : Int32) ≤ l3 then some (l3, M) else zl 3 (M 22) l3 (fun v29 => zw 42 M 7 (((21 : Int32) + ((3 : Int32) * (M 6 1))) + l3) v29 (fun M_30 => zv (l3 + 1) (fun (x31 : Int32) => L_X9_isGood_128 l1 l2 n x31 M_30)))
def f_X9_isGood (M : zMm) (a1 : Int32) : Option (Int32 × zMm) := zv (M 22 0) (fun (x1 : Int32) => if a1 = 116 then zb1 (f_X9_in (x1.toInt64) 80 120) (fun (r36 : Int32) => if r36 = 0 then some ((0 : Int32), M) else if (M 4 1) = 6 then some ((0 : Int32), M) else zw 12 M 5 ((6 : Int32) + (M 4 1)) x1 (fun M_40 => zv (zs M_40 4 (upd (M_40 4) 1 ((M_40 4 1) + 1))) (fun (M_41 : zMm) => some ((1 : Int32), M_41)))) else if a1 = 112 then if (M 4 1) ≤ x1 then some ((0 : Int32), M) else zb1 (f_X9_in ((M 22 1).toInt64) 10 199) (fun (r23 : Int32) => if r23 = 0 then some ((0 : Int32), M) else if (99 : Int32) < (M 22 2) then some ((0 : Int32), M) else if (M 6 1) = 7 then some ((0 : Int32), M) else zb2 (L_X9_isGood_128 a1 x1 100000 0 M) (fun (x32 : Int32) (M_33 : zMm) => zv (zs M_33 6 (upd (M_33 6) 1 ((M_33 6 1) + 1))) (fun (M_35 : zMm) => some ((1 : Int32), M_35)))) else if a1 = 115 then if (M 6 1) ≤ x1 then some ((0 : Int32), M) else if (M 6 1) ≤ (M 22 1) then some ((0 : Int32), M) else if x1 = (M 22 1) then some ((0 : Int32), M) else if (M 8 1) = 10 then some ((0 : Int32), M) else zw 40 M 9 ((20 : Int32) + ((2 : Int32) * (M 8 1))) x1 (fun M_19 => zw 40 M_19 9 ((21 : Int32) + ((2 : Int32) * (M_19 8 1))) (M_19 22 1) (fun M_20 => zv (zs M_20 8 (upd (M_20 8) 1 ((M_20 8 1) + 1))) (fun (M_21 : zMm) => some ((1 : Int32), M_21)))) else zb1 (if a1 = 103 then some (3 : Int32) else if a1 = 122 then some (4 : Int32) else some (5 : Int32)) (fun (y6 : Int32) => zw 6 M 3 y6 x1 (fun M_10 => if a1 = 103 then if (21 : Int32) ≤ x1 then some ((0 : Int32), M_10) else some ((1 : Int32), M_10) else if a1 = 122 then some ((1 : Int32), M_10) else if x1 ≤ 0 then some ((0 : Int32), M_10) else some ((1 : Int32), M_10))))
abbrev ww_X9_isGood : List Cond := Cond.code yX9_isGood cX9_isGood 4 (some .boolean) :: wG
theorem q_X9_isGood : yX9_isGood.cls = RX9 ∧ yX9_isGood.cls ≠ "java/lang/invoke/MethodHandle" ∧ yX9_isGood.cls ≠ "java/lang/invoke/VarHandle" ∧ (parseMethodDescriptor yX9_isGood.desc).map (fun d => d.parameters.length) = some 1 := by decide +kernel
set_option maxHeartbeats 4000000 in
set_option maxRecDepth 100000 in
theorem c_X9_isGood (l : Launch) (D : va_G) (cI cB : ClassId) (hM : Nat → Nat) (M : zMm) (a1 : Int32) (r0 : Int32) (M0 : zMm) (hf : f_X9_isGood M a1 = some (r0, M0)) : zMi l yX9_isGood ww_X9_isGood ({ frames := 1, cells := 0, slots := 0, locals := 25 } : Room) D cI cB [.ref (hM 0), .int a1] (w9 cI cB hM M) r0 (w9 cI cB hM M0) := by
  refine zofI (cc := cX9_isGood) (maxL := 4) (ret := (some .boolean)) (by decide +kernel) rfl (Nat.le_of_ble_eq_true rfl) ?_
  intro p e s m below meth c A ls hx hb hml hr hown hts hlocks hK hP hD hS hA hl
  have hl : lv_has ls 4 [(0, .ref (hM 0)), (1, .int a1)] := hl
  have hown : s.vm.findClass RX9 = some m.cls := hown
  have hG : ∀ w ∈ wG, w ∈ ww_X9_isGood := fun w h => List.mem_cons_of_mem _ h
  have hi9 : ∀ w ∈ wsX90, w ∈ ww_X9_isGood := fun w h => List.mem_cons_of_mem _ (z_inX9 w h)
  have L128 : ∀ (l1 : Int32) (l2 : Int32) (n : Nat) (l3 : Int32) (M : zMm) (o3 : Int32) (oM : zMm), L_X9_isGood_128 l1 l2 n l3 M = some (o3, oM) → zAt p l e ({ frames := 1, cells := 0, slots := 0, locals := 25 } : Room) s m [.ref (hM 0), .int a1].toArray below meth c (MQ below (zQi D cI cB r0 (w9 cI cB hM M0) A) [.ref (hM 0), .int a1].toArray s 0 0 A) A D 4 (w9 cI cB hM oM) [(0, .ref (hM 0)), (1, .int l1), (2, .int l2), (3, .int o3)] 163 [] → zAt p l e ({ frames := 1, cells := 0, slots := 0, locals := 25 } : Room) s m [.ref (hM 0), .int a1].toArray below meth c (MQ below (zQi D cI cB r0 (w9 cI cB hM M0) A) [.ref (hM 0), .int a1].toArray s 0 0 A) A D 4 (w9 cI cB hM M) [(0, .ref (hM 0)), (1, .int l1), (2, .int l2), (3, .int l3)] 128 [] := by
    intro l1 l2 n
    induction n with
    | zero => intro l3 M o3 oM hf; simp [L_X9_isGood_128] at hf
    | succ n ih =>
      intro l3 M o3 oM hf hk H locs ls hP hD hS hl
      rw [L_X9_isGood_128] at hf
      refine lv_iload_n hx hb dX9_isGood_128 rfl (lv_at hl 3 rfl) ?_
      refine lv_iconst (v := 3) hx hb dX9_isGood_129 (by decide) ?_
      refine lv_icmp_ge (tgt := 163) hx hb dX9_isGood_130 (by decide) (fun c_28 => ?_) (fun c_28 => ?_)
      · replace hf := zit c_28 hf
        cases hf
        exact hk _ _ _ hP hD hS (lv_sub hl [0, 1, 2, 3] rfl)
      · replace hf := zif c_28 hf
        refine lv_aload_n hx hb dX9_isGood_133 rfl (lv_at hl 0 rfl) ?_
        refine va_get (D := D) (ci := 9) (v := .ref (hM 6)) (C := RX9) (T := TX9) (N := 23) hx hb hts hi9 hown hK hP 0 rfl rfl 7 (Nat.le_of_ble_eq_true rfl) (hts _ (List.mem_cons_of_mem _ wd_659)) (fun _ h9 => h9) rfl dX9_isGood_134 ?_
        refine lv_bipush (v := 21) hx hb dX9_isGood_137 (by decide) ?_
        refine lv_iconst (v := 3) hx hb dX9_isGood_139 (by decide) ?_
        refine lv_aload_n hx hb dX9_isGood_140 rfl (lv_at hl 0 rfl) ?_
        refine va_get (D := D) (ci := 9) (v := .ref (hM 5)) (C := RX9) (T := TX9) (N := 23) hx hb hts hi9 hown hK hP 0 rfl rfl 6 (Nat.le_of_ble_eq_true rfl) (hts _ (List.mem_cons_of_mem _ wd_658)) (fun _ h9 => h9) rfl dX9_isGood_141 ?_
        refine lv_iconst (v := 1) hx hb dX9_isGood_144 (by decide) ?_
        refine va_iald (n := 2) (f := M 6) (cA := cI) hx hb hK hP 5 0 rfl rfl (z_in (by decide)) dX9_isGood_145 ?_
        refine z_tc (k := 1) (by decide) ?_
        refine lv_imul hx hb dX9_isGood_146 ?_
        refine lv_iadd hx hb dX9_isGood_147 ?_
        refine lv_iload_n hx hb dX9_isGood_148 rfl (lv_at hl 3 rfl) ?_
        refine lv_iadd hx hb dX9_isGood_149 ?_
        refine lv_aload_n hx hb dX9_isGood_150 rfl (lv_at hl 0 rfl) ?_
        refine va_get (D := D) (ci := 9) (v := .ref (hM 17)) (C := RX9) (T := TX9) (N := 23) hx hb hts hi9 hown hK hP 0 rfl rfl 22 (Nat.le_of_ble_eq_true rfl) (hts _ (List.mem_cons_of_mem _ wd_674)) (fun _ h9 => h9) rfl dX9_isGood_151 ?_
        refine lv_iload_n hx hb dX9_isGood_154 rfl (lv_at hl 3 rfl) ?_
        obtain ⟨i_v29, v29, e_v29, hf⟩ := zl_some hf
        refine va_iald (n := 3) (f := M 22) (cA := cI) hx hb hK hP 17 0 rfl rfl i_v29 dX9_isGood_155 ?_
        refine zt e_v29 ?_
        obtain ⟨i_M_30, M_30, e_M_30, hf⟩ := zw_some hf
        refine va_iast (n := 42) (f := M 7) (cA := cI) hx hb hK hP hD hS 6 0 rfl rfl i_M_30 dX9_isGood_156 (fun H locs hP hD hS => ?_)
        have hP : va_P D vwCl (w9 cI cB hM (zs M 7 (upd (M 7) (((21 : Int32) + ((3 : Int32) * (M 6 1))) + l3).toNatClampNeg v29))) H := hP
        have hD : va_D A (w9 cI cB hM (zs M 7 (upd (M 7) (((21 : Int32) + ((3 : Int32) * (M 6 1))) + l3).toNatClampNeg v29))) := hD
        rw [← e_M_30] at hP hD
        obtain ⟨x31, e_x31, hf⟩ := zv_some hf
        refine lv_iinc (v := x31) (lv' := [(3, .int x31), (0, .ref (hM 0)), (1, .int l1), (2, .int l2)]) hx hb dX9_isGood_157 hl (k := 3) rfl (by rw [e_x31]; rfl) (by decide) rfl (fun ls hl => ?_)
        refine lv_goto (tgt := 128) hx hb dX9_isGood_160 (by decide) ?_
        exact ih _ _ _ _ hf hk _ _ _ hP hD hS (lv_sub hl [1, 2, 3, 0] rfl)
  unfold f_X9_isGood at hf
  refine lv_aload_n hx hb dX9_isGood_0 rfl (lv_at hl 0 rfl) ?_
  refine va_get (D := D) (ci := 9) (v := .ref (hM 17)) (C := RX9) (T := TX9) (N := 23) hx hb hts hi9 hown hK hP 0 rfl rfl 22 (Nat.le_of_ble_eq_true rfl) (hts _ (List.mem_cons_of_mem _ wd_674)) (fun _ h9 => h9) rfl dX9_isGood_1 ?_
  refine lv_iconst (v := 0) hx hb dX9_isGood_4 (by decide) ?_
  refine va_iald (n := 3) (f := M 22) (cA := cI) hx hb hK hP 17 0 rfl rfl (z_in (by decide)) dX9_isGood_5 ?_
  refine z_tc (k := 0) (by decide) ?_
  obtain ⟨x1, e_x1, hf⟩ := zv_some hf
  refine zt e_x1 ?_
  refine lv_istore_n (lv' := [(2, .int x1), (0, .ref (hM 0)), (1, .int a1)]) hx hb dX9_isGood_6 rfl hl (by decide) rfl (fun ls hl => ?_)
  refine lv_iload_n hx hb dX9_isGood_7 rfl (lv_at hl 2 rfl) ?_
  refine lv_bipush (v := 116) hx hb dX9_isGood_8 (by decide) ?_
  refine lv_icmp_ne (tgt := 67) hx hb dX9_isGood_10 (by decide) (fun c_2 => ?_) (fun c_2 => ?_)
  · replace hf := zif c_2 hf
    refine lv_iload_n hx hb dX9_isGood_67 rfl (lv_at hl 2 rfl) ?_
    refine lv_bipush (v := 112) hx hb dX9_isGood_68 (by decide) ?_
    refine lv_icmp_ne (tgt := 175) hx hb dX9_isGood_70 (by decide) (fun c_3 => ?_) (fun c_3 => ?_)
    · replace hf := zif c_3 hf
      refine lv_iload_n hx hb dX9_isGood_175 rfl (lv_at hl 2 rfl) ?_
      refine lv_bipush (v := 115) hx hb dX9_isGood_176 (by decide) ?_
      refine lv_icmp_ne (tgt := 280) hx hb dX9_isGood_178 (by decide) (fun c_4 => ?_) (fun c_4 => ?_)
      · replace hf := zif c_4 hf
        refine lv_aload_n hx hb dX9_isGood_280 rfl (lv_at hl 1 rfl) ?_
        refine va_get (D := D) (ci := 9) (v := .ref (hM 2)) (C := RX9) (T := TX9) (N := 23) hx hb hts hi9 hown hK hP 0 rfl rfl 3 (Nat.le_of_ble_eq_true rfl) (hts _ (List.mem_cons_of_mem _ wd_655)) (fun _ h9 => h9) rfl dX9_isGood_281 ?_
        refine lv_iload_n hx hb dX9_isGood_284 rfl (lv_at hl 2 rfl) ?_
        refine lv_bipush (v := 103) hx hb dX9_isGood_285 (by decide) ?_
        obtain ⟨y6, hq7, hf⟩ := zb1_some hf
        have J8 : zAt p l e ({ frames := 1, cells := 0, slots := 0, locals := 25 } : Room) s m [.ref (hM 0), .int a1].toArray below meth c (MQ below (zQi D cI cB r0 (w9 cI cB hM M0) A) [.ref (hM 0), .int a1].toArray s 0 0 A) A D 4 (w9 cI cB hM M) [(0, .ref (hM 0)), (1, .int a1), (2, .int x1)] 305 [.int y6, .ref (hM 2)] := by
          intro H locs ls hP hD hS hl
          refine lv_iload_n hx hb dX9_isGood_305 rfl (lv_at hl 2 rfl) ?_
          obtain ⟨i_M_10, M_10, e_M_10, hf⟩ := zw_some hf
          refine va_iast (n := 6) (f := M 3) (cA := cI) hx hb hK hP hD hS 2 0 rfl rfl i_M_10 dX9_isGood_306 (fun H locs hP hD hS => ?_)
          have hP : va_P D vwCl (w9 cI cB hM (zs M 3 (upd (M 3) y6.toNatClampNeg x1))) H := hP
          have hD : va_D A (w9 cI cB hM (zs M 3 (upd (M 3) y6.toNatClampNeg x1))) := hD
          rw [← e_M_10] at hP hD
          refine lv_iload_n hx hb dX9_isGood_307 rfl (lv_at hl 1 rfl) ?_
          refine lv_bipush (v := 103) hx hb dX9_isGood_308 (by decide) ?_
          refine lv_icmp_ne (tgt := 327) hx hb dX9_isGood_310 (by decide) (fun c_11 => ?_) (fun c_11 => ?_)
          · replace hf := zif c_11 hf
            refine lv_iload_n hx hb dX9_isGood_327 rfl (lv_at hl 1 rfl) ?_
            refine lv_bipush (v := 122) hx hb dX9_isGood_328 (by decide) ?_
            refine lv_icmp_eq (tgt := 337) hx hb dX9_isGood_330 (by decide) (fun c_12 => ?_) (fun c_12 => ?_)
            · replace hf := zit c_12 hf
              refine lv_iconst (v := 1) hx hb dX9_isGood_337 (by decide) ?_
              refine lv_goto (tgt := 342) hx hb dX9_isGood_338 (by decide) ?_
              cases hf
              exact zretB hx hb hr hlocks rfl hK hP hD hS dX9_isGood_342
            · replace hf := zif c_12 hf
              refine lv_iload_n hx hb dX9_isGood_333 rfl (lv_at hl 2 rfl) ?_
              refine lv_if_le (tgt := 341) hx hb dX9_isGood_334 (by decide) (fun c_13 => ?_) (fun c_13 => ?_)
              · replace hf := zit c_13 hf
                refine lv_iconst (v := 0) hx hb dX9_isGood_341 (by decide) ?_
                cases hf
                exact zretB hx hb hr hlocks rfl hK hP hD hS dX9_isGood_342
              · replace hf := zif c_13 hf
                refine lv_iconst (v := 1) hx hb dX9_isGood_337 (by decide) ?_
                refine lv_goto (tgt := 342) hx hb dX9_isGood_338 (by decide) ?_
                cases hf
                exact zretB hx hb hr hlocks rfl hK hP hD hS dX9_isGood_342
          · replace hf := zit c_11 hf
            refine lv_iload_n hx hb dX9_isGood_313 rfl (lv_at hl 2 rfl) ?_
            refine lv_bipush (v := 21) hx hb dX9_isGood_314 (by decide) ?_
            refine lv_icmp_ge (tgt := 323) hx hb dX9_isGood_316 (by decide) (fun c_14 => ?_) (fun c_14 => ?_)
            · replace hf := zit c_14 hf
              refine lv_iconst (v := 0) hx hb dX9_isGood_323 (by decide) ?_
              refine lv_goto (tgt := 342) hx hb dX9_isGood_324 (by decide) ?_
              cases hf
              exact zretB hx hb hr hlocks rfl hK hP hD hS dX9_isGood_342
            · replace hf := zif c_14 hf
              refine lv_iconst (v := 1) hx hb dX9_isGood_319 (by decide) ?_
              refine lv_goto (tgt := 342) hx hb dX9_isGood_320 (by decide) ?_
              cases hf
              exact zretB hx hb hr hlocks rfl hK hP hD hS dX9_isGood_342
        replace hf := hq7
        refine lv_icmp_ne (tgt := 294) hx hb dX9_isGood_287 (by decide) (fun c_5 => ?_) (fun c_5 => ?_)
        · replace hf := zif c_5 hf
          refine lv_iload_n hx hb dX9_isGood_294 rfl (lv_at hl 2 rfl) ?_
          refine lv_bipush (v := 122) hx hb dX9_isGood_295 (by decide) ?_
          refine lv_icmp_ne (tgt := 304) hx hb dX9_isGood_297 (by decide) (fun c_9 => ?_) (fun c_9 => ?_)
          · replace hf := zif c_9 hf
            refine lv_iconst (v := 5) hx hb dX9_isGood_304 (by decide) ?_
            cases hf
            exact J8 _ _ _ hP hD hS (lv_sub hl [1, 2, 0] rfl)
          · replace hf := zit c_9 hf
            refine lv_iconst (v := 4) hx hb dX9_isGood_300 (by decide) ?_
            refine lv_goto (tgt := 305) hx hb dX9_isGood_301 (by decide) ?_
            cases hf
            exact J8 _ _ _ hP hD hS (lv_sub hl [1, 2, 0] rfl)
        · replace hf := zit c_5 hf
          refine lv_iconst (v := 3) hx hb dX9_isGood_290 (by decide) ?_
          refine lv_goto (tgt := 305) hx hb dX9_isGood_291 (by decide) ?_
          cases hf
          exact J8 _ _ _ hP hD hS (lv_sub hl [1, 2, 0] rfl)
      · replace hf := zit c_4 hf
        refine lv_iload_n hx hb dX9_isGood_181 rfl (lv_at hl 0 rfl) ?_
        refine lv_aload_n hx hb dX9_isGood_182 rfl (lv_at hl 1 rfl) ?_
        refine va_get (D := D) (ci := 9) (v := .ref (hM 5)) (C := RX9) (T := TX9) (N := 23) hx hb hts hi9 hown hK hP 0 rfl rfl 6 (Nat.le_of_ble_eq_true rfl) (hts _ (List.mem_cons_of_mem _ wd_658)) (fun _ h9 => h9) rfl dX9_isGood_183 ?_
        refine lv_iconst (v := 1) hx hb dX9_isGood_186 (by decide) ?_
        refine va_iald (n := 2) (f := M 6) (cA := cI) hx hb hK hP 5 0 rfl rfl (z_in (by decide)) dX9_isGood_187 ?_
        refine z_tc (k := 1) (by decide) ?_
        refine lv_icmp_ge (tgt := 227) hx hb dX9_isGood_188 (by decide) (fun c_15 => ?_) (fun c_15 => ?_)
        · replace hf := zit c_15 hf
          refine lv_iconst (v := 0) hx hb dX9_isGood_227 (by decide) ?_
          cases hf
          exact zretB hx hb hr hlocks rfl hK hP hD hS dX9_isGood_228
        · replace hf := zif c_15 hf
          refine lv_aload_n hx hb dX9_isGood_191 rfl (lv_at hl 1 rfl) ?_
          refine va_get (D := D) (ci := 9) (v := .ref (hM 17)) (C := RX9) (T := TX9) (N := 23) hx hb hts hi9 hown hK hP 0 rfl rfl 22 (Nat.le_of_ble_eq_true rfl) (hts _ (List.mem_cons_of_mem _ wd_674)) (fun _ h9 => h9) rfl dX9_isGood_192 ?_
          refine lv_iconst (v := 1) hx hb dX9_isGood_195 (by decide) ?_
          refine va_iald (n := 3) (f := M 22) (cA := cI) hx hb hK hP 17 0 rfl rfl (z_in (by decide)) dX9_isGood_196 ?_
          refine z_tc (k := 1) (by decide) ?_
          refine lv_aload_n hx hb dX9_isGood_197 rfl (lv_at hl 1 rfl) ?_
          refine va_get (D := D) (ci := 9) (v := .ref (hM 5)) (C := RX9) (T := TX9) (N := 23) hx hb hts hi9 hown hK hP 0 rfl rfl 6 (Nat.le_of_ble_eq_true rfl) (hts _ (List.mem_cons_of_mem _ wd_658)) (fun _ h9 => h9) rfl dX9_isGood_198 ?_
          refine lv_iconst (v := 1) hx hb dX9_isGood_201 (by decide) ?_
          refine va_iald (n := 2) (f := M 6) (cA := cI) hx hb hK hP 5 0 rfl rfl (z_in (by decide)) dX9_isGood_202 ?_
          refine z_tc (k := 1) (by decide) ?_
          refine lv_icmp_ge (tgt := 227) hx hb dX9_isGood_203 (by decide) (fun c_16 => ?_) (fun c_16 => ?_)
          · replace hf := zit c_16 hf
            refine lv_iconst (v := 0) hx hb dX9_isGood_227 (by decide) ?_
            cases hf
            exact zretB hx hb hr hlocks rfl hK hP hD hS dX9_isGood_228
          · replace hf := zif c_16 hf
            refine lv_iload_n hx hb dX9_isGood_206 rfl (lv_at hl 0 rfl) ?_
            refine lv_aload_n hx hb dX9_isGood_207 rfl (lv_at hl 1 rfl) ?_
            refine va_get (D := D) (ci := 9) (v := .ref (hM 17)) (C := RX9) (T := TX9) (N := 23) hx hb hts hi9 hown hK hP 0 rfl rfl 22 (Nat.le_of_ble_eq_true rfl) (hts _ (List.mem_cons_of_mem _ wd_674)) (fun _ h9 => h9) rfl dX9_isGood_208 ?_
            refine lv_iconst (v := 1) hx hb dX9_isGood_211 (by decide) ?_
            refine va_iald (n := 3) (f := M 22) (cA := cI) hx hb hK hP 17 0 rfl rfl (z_in (by decide)) dX9_isGood_212 ?_
            refine z_tc (k := 1) (by decide) ?_
            refine lv_icmp_eq (tgt := 227) hx hb dX9_isGood_213 (by decide) (fun c_17 => ?_) (fun c_17 => ?_)
            · replace hf := zit c_17 hf
              refine lv_iconst (v := 0) hx hb dX9_isGood_227 (by decide) ?_
              cases hf
              exact zretB hx hb hr hlocks rfl hK hP hD hS dX9_isGood_228
            · replace hf := zif c_17 hf
              refine lv_aload_n hx hb dX9_isGood_216 rfl (lv_at hl 1 rfl) ?_
              refine va_get (D := D) (ci := 9) (v := .ref (hM 7)) (C := RX9) (T := TX9) (N := 23) hx hb hts hi9 hown hK hP 0 rfl rfl 8 (Nat.le_of_ble_eq_true rfl) (hts _ (List.mem_cons_of_mem _ wd_660)) (fun _ h9 => h9) rfl dX9_isGood_217 ?_
              refine lv_iconst (v := 1) hx hb dX9_isGood_220 (by decide) ?_
              refine va_iald (n := 2) (f := M 8) (cA := cI) hx hb hK hP 7 0 rfl rfl (z_in (by decide)) dX9_isGood_221 ?_
              refine z_tc (k := 1) (by decide) ?_
              refine lv_bipush (v := 10) hx hb dX9_isGood_222 (by decide) ?_
              refine lv_icmp_ne (tgt := 229) hx hb dX9_isGood_224 (by decide) (fun c_18 => ?_) (fun c_18 => ?_)
              · replace hf := zif c_18 hf
                refine lv_aload_n hx hb dX9_isGood_229 rfl (lv_at hl 1 rfl) ?_
                refine va_get (D := D) (ci := 9) (v := .ref (hM 8)) (C := RX9) (T := TX9) (N := 23) hx hb hts hi9 hown hK hP 0 rfl rfl 9 (Nat.le_of_ble_eq_true rfl) (hts _ (List.mem_cons_of_mem _ wd_661)) (fun _ h9 => h9) rfl dX9_isGood_230 ?_
                refine lv_bipush (v := 20) hx hb dX9_isGood_233 (by decide) ?_
                refine lv_iconst (v := 2) hx hb dX9_isGood_235 (by decide) ?_
                refine lv_aload_n hx hb dX9_isGood_236 rfl (lv_at hl 1 rfl) ?_
                refine va_get (D := D) (ci := 9) (v := .ref (hM 7)) (C := RX9) (T := TX9) (N := 23) hx hb hts hi9 hown hK hP 0 rfl rfl 8 (Nat.le_of_ble_eq_true rfl) (hts _ (List.mem_cons_of_mem _ wd_660)) (fun _ h9 => h9) rfl dX9_isGood_237 ?_
                refine lv_iconst (v := 1) hx hb dX9_isGood_240 (by decide) ?_
                refine va_iald (n := 2) (f := M 8) (cA := cI) hx hb hK hP 7 0 rfl rfl (z_in (by decide)) dX9_isGood_241 ?_
                refine z_tc (k := 1) (by decide) ?_
                refine lv_imul hx hb dX9_isGood_242 ?_
                refine lv_iadd hx hb dX9_isGood_243 ?_
                refine lv_iload_n hx hb dX9_isGood_244 rfl (lv_at hl 0 rfl) ?_
                obtain ⟨i_M_19, M_19, e_M_19, hf⟩ := zw_some hf
                refine va_iast (n := 40) (f := M 9) (cA := cI) hx hb hK hP hD hS 8 0 rfl rfl i_M_19 dX9_isGood_245 (fun H locs hP hD hS => ?_)
                have hP : va_P D vwCl (w9 cI cB hM (zs M 9 (upd (M 9) ((20 : Int32) + ((2 : Int32) * (M 8 1))).toNatClampNeg x1))) H := hP
                have hD : va_D A (w9 cI cB hM (zs M 9 (upd (M 9) ((20 : Int32) + ((2 : Int32) * (M 8 1))).toNatClampNeg x1))) := hD
                rw [← e_M_19] at hP hD
                refine lv_aload_n hx hb dX9_isGood_246 rfl (lv_at hl 1 rfl) ?_
                refine va_get (D := D) (ci := 9) (v := .ref (hM 8)) (C := RX9) (T := TX9) (N := 23) hx hb hts hi9 hown hK hP 0 rfl rfl 9 (Nat.le_of_ble_eq_true rfl) (hts _ (List.mem_cons_of_mem _ wd_661)) (fun _ h9 => h9) rfl dX9_isGood_247 ?_
                refine lv_bipush (v := 21) hx hb dX9_isGood_250 (by decide) ?_
                refine lv_iconst (v := 2) hx hb dX9_isGood_252 (by decide) ?_
                refine lv_aload_n hx hb dX9_isGood_253 rfl (lv_at hl 1 rfl) ?_
                refine va_get (D := D) (ci := 9) (v := .ref (hM 7)) (C := RX9) (T := TX9) (N := 23) hx hb hts hi9 hown hK hP 0 rfl rfl 8 (Nat.le_of_ble_eq_true rfl) (hts _ (List.mem_cons_of_mem _ wd_660)) (fun _ h9 => h9) rfl dX9_isGood_254 ?_
                refine lv_iconst (v := 1) hx hb dX9_isGood_257 (by decide) ?_
                refine va_iald (n := 2) (f := M_19 8) (cA := cI) hx hb hK hP 7 0 rfl rfl (z_in (by decide)) dX9_isGood_258 ?_
                refine z_tc (k := 1) (by decide) ?_
                refine lv_imul hx hb dX9_isGood_259 ?_
                refine lv_iadd hx hb dX9_isGood_260 ?_
                refine lv_aload_n hx hb dX9_isGood_261 rfl (lv_at hl 1 rfl) ?_
                refine va_get (D := D) (ci := 9) (v := .ref (hM 17)) (C := RX9) (T := TX9) (N := 23) hx hb hts hi9 hown hK hP 0 rfl rfl 22 (Nat.le_of_ble_eq_true rfl) (hts _ (List.mem_cons_of_mem _ wd_674)) (fun _ h9 => h9) rfl dX9_isGood_262 ?_
                refine lv_iconst (v := 1) hx hb dX9_isGood_265 (by decide) ?_
                refine va_iald (n := 3) (f := M_19 22) (cA := cI) hx hb hK hP 17 0 rfl rfl (z_in (by decide)) dX9_isGood_266 ?_
                refine z_tc (k := 1) (by decide) ?_
                obtain ⟨i_M_20, M_20, e_M_20, hf⟩ := zw_some hf
                refine va_iast (n := 40) (f := M_19 9) (cA := cI) hx hb hK hP hD hS 8 0 rfl rfl i_M_20 dX9_isGood_267 (fun H locs hP hD hS => ?_)
                have hP : va_P D vwCl (w9 cI cB hM (zs M_19 9 (upd (M_19 9) ((21 : Int32) + ((2 : Int32) * (M_19 8 1))).toNatClampNeg (M_19 22 1)))) H := hP
                have hD : va_D A (w9 cI cB hM (zs M_19 9 (upd (M_19 9) ((21 : Int32) + ((2 : Int32) * (M_19 8 1))).toNatClampNeg (M_19 22 1)))) := hD
                rw [← e_M_20] at hP hD
                refine lv_aload_n hx hb dX9_isGood_268 rfl (lv_at hl 1 rfl) ?_
                refine va_get (D := D) (ci := 9) (v := .ref (hM 7)) (C := RX9) (T := TX9) (N := 23) hx hb hts hi9 hown hK hP 0 rfl rfl 8 (Nat.le_of_ble_eq_true rfl) (hts _ (List.mem_cons_of_mem _ wd_660)) (fun _ h9 => h9) rfl dX9_isGood_269 ?_
                refine lv_iconst (v := 1) hx hb dX9_isGood_272 (by decide) ?_
                refine lv_dup2_11 hx hb dX9_isGood_273 rfl rfl ?_
                refine va_iald (n := 2) (f := M_20 8) (cA := cI) hx hb hK hP 7 0 rfl rfl (z_in (by decide)) dX9_isGood_274 ?_
                refine z_tc (k := 1) (by decide) ?_
                refine lv_iconst (v := 1) hx hb dX9_isGood_275 (by decide) ?_
                refine lv_iadd hx hb dX9_isGood_276 ?_
                obtain ⟨M_21, e_M_21, hf⟩ := zv_some hf
                refine va_iast (n := 2) (f := M_20 8) (cA := cI) hx hb hK hP hD hS 7 0 rfl rfl (z_in (by decide)) dX9_isGood_277 (fun H locs hP hD hS => ?_)
                have hP : va_P D vwCl (w9 cI cB hM (zs M_20 8 (upd (M_20 8) 1 ((M_20 8 1) + 1)))) H := hP
                have hD : va_D A (w9 cI cB hM (zs M_20 8 (upd (M_20 8) 1 ((M_20 8 1) + 1)))) := hD
                rw [← e_M_21] at hP hD
                refine lv_iconst (v := 1) hx hb dX9_isGood_278 (by decide) ?_
                cases hf
                exact zretB hx hb hr hlocks rfl hK hP hD hS dX9_isGood_279
              · replace hf := zit c_18 hf
                refine lv_iconst (v := 0) hx hb dX9_isGood_227 (by decide) ?_
                cases hf
                exact zretB hx hb hr hlocks rfl hK hP hD hS dX9_isGood_228
    · replace hf := zit c_3 hf
      refine lv_iload_n hx hb dX9_isGood_73 rfl (lv_at hl 0 rfl) ?_
      refine lv_aload_n hx hb dX9_isGood_74 rfl (lv_at hl 1 rfl) ?_
      refine va_get (D := D) (ci := 9) (v := .ref (hM 3)) (C := RX9) (T := TX9) (N := 23) hx hb hts hi9 hown hK hP 0 rfl rfl 4 (Nat.le_of_ble_eq_true rfl) (hts _ (List.mem_cons_of_mem _ wd_656)) (fun _ h9 => h9) rfl dX9_isGood_75 ?_
      refine lv_iconst (v := 1) hx hb dX9_isGood_78 (by decide) ?_
      refine va_iald (n := 2) (f := M 4) (cA := cI) hx hb hK hP 3 0 rfl rfl (z_in (by decide)) dX9_isGood_79 ?_
      refine z_tc (k := 1) (by decide) ?_
      refine lv_icmp_ge (tgt := 124) hx hb dX9_isGood_80 (by decide) (fun c_22 => ?_) (fun c_22 => ?_)
      · replace hf := zit c_22 hf
        refine lv_iconst (v := 0) hx hb dX9_isGood_124 (by decide) ?_
        cases hf
        exact zretB hx hb hr hlocks rfl hK hP hD hS dX9_isGood_125
      · replace hf := zif c_22 hf
        refine lv_aload_n hx hb dX9_isGood_83 rfl (lv_at hl 1 rfl) ?_
        refine va_get (D := D) (ci := 9) (v := .ref (hM 17)) (C := RX9) (T := TX9) (N := 23) hx hb hts hi9 hown hK hP 0 rfl rfl 22 (Nat.le_of_ble_eq_true rfl) (hts _ (List.mem_cons_of_mem _ wd_674)) (fun _ h9 => h9) rfl dX9_isGood_84 ?_
        refine lv_iconst (v := 1) hx hb dX9_isGood_87 (by decide) ?_
        refine va_iald (n := 3) (f := M 22) (cA := cI) hx hb hK hP 17 0 rfl rfl (z_in (by decide)) dX9_isGood_88 ?_
        refine z_tc (k := 1) (by decide) ?_
        refine lv_i2l hx hb dX9_isGood_89 rfl ?_
        refine lv_ldc2 (v := 10) hx hb hown (hts _ (List.mem_cons_of_mem _ wd_758)) dX9_isGood_90 ?_
        refine lv_ldc2 (v := 199) hx hb hown (hts _ (List.mem_cons_of_mem _ wd_759)) dX9_isGood_93 ?_
        obtain ⟨r23, hq24, hf⟩ := zb1_some hf
        refine zcallSi (rest := []) ⟨hx, hb, hml, hown, hts⟩ (c_X9_in l D cI cB ((M 22 1).toInt64) 10 199 r23 hq24) (z_cwS 3 hts (z_gS hG wd_727 wd_728 wd_15 wd_729) rfl rfl rfl q_X9_in ⟨Nat.le_of_ble_eq_true rfl, Nat.le_of_ble_eq_true rfl⟩) hK hP hD hS hA rfl hl.1 (Nat.le_of_ble_eq_true rfl) dX9_isGood_96 ⟨Nat.zero_le _, Nat.zero_le _⟩ rfl (fun H locs hP hD hS => ?_)
        refine lv_if_eq (tgt := 124) hx hb dX9_isGood_99 (by decide) (fun c_25 => ?_) (fun c_25 => ?_)
        · replace hf := zit c_25 hf
          refine lv_iconst (v := 0) hx hb dX9_isGood_124 (by decide) ?_
          cases hf
          exact zretB hx hb hr hlocks rfl hK hP hD hS dX9_isGood_125
        · replace hf := zif c_25 hf
          refine lv_aload_n hx hb dX9_isGood_102 rfl (lv_at hl 1 rfl) ?_
          refine va_get (D := D) (ci := 9) (v := .ref (hM 17)) (C := RX9) (T := TX9) (N := 23) hx hb hts hi9 hown hK hP 0 rfl rfl 22 (Nat.le_of_ble_eq_true rfl) (hts _ (List.mem_cons_of_mem _ wd_674)) (fun _ h9 => h9) rfl dX9_isGood_103 ?_
          refine lv_iconst (v := 2) hx hb dX9_isGood_106 (by decide) ?_
          refine va_iald (n := 3) (f := M 22) (cA := cI) hx hb hK hP 17 0 rfl rfl (z_in (by decide)) dX9_isGood_107 ?_
          refine z_tc (k := 2) (by decide) ?_
          refine lv_bipush (v := 99) hx hb dX9_isGood_108 (by decide) ?_
          refine lv_icmp_gt (tgt := 124) hx hb dX9_isGood_110 (by decide) (fun c_26 => ?_) (fun c_26 => ?_)
          · replace hf := zit c_26 hf
            refine lv_iconst (v := 0) hx hb dX9_isGood_124 (by decide) ?_
            cases hf
            exact zretB hx hb hr hlocks rfl hK hP hD hS dX9_isGood_125
          · replace hf := zif c_26 hf
            refine lv_aload_n hx hb dX9_isGood_113 rfl (lv_at hl 1 rfl) ?_
            refine va_get (D := D) (ci := 9) (v := .ref (hM 5)) (C := RX9) (T := TX9) (N := 23) hx hb hts hi9 hown hK hP 0 rfl rfl 6 (Nat.le_of_ble_eq_true rfl) (hts _ (List.mem_cons_of_mem _ wd_658)) (fun _ h9 => h9) rfl dX9_isGood_114 ?_
            refine lv_iconst (v := 1) hx hb dX9_isGood_117 (by decide) ?_
            refine va_iald (n := 2) (f := M 6) (cA := cI) hx hb hK hP 5 0 rfl rfl (z_in (by decide)) dX9_isGood_118 ?_
            refine z_tc (k := 1) (by decide) ?_
            refine lv_bipush (v := 7) hx hb dX9_isGood_119 (by decide) ?_
            refine lv_icmp_ne (tgt := 126) hx hb dX9_isGood_121 (by decide) (fun c_27 => ?_) (fun c_27 => ?_)
            · replace hf := zif c_27 hf
              refine lv_iconst (v := 0) hx hb dX9_isGood_126 (by decide) ?_
              refine lv_istore_n (lv' := [(3, .int 0), (2, .int x1), (0, .ref (hM 0)), (1, .int a1)]) hx hb dX9_isGood_127 rfl hl (by decide) rfl (fun ls hl => ?_)
              obtain ⟨x32, M_33, hq34, hf⟩ := zb2_some hf
              refine L128 _ _ _ _ _ _ _ hq34 ?_ _ _ _ hP hD hS (lv_sub hl [2, 3, 1, 0] rfl)
              intro H locs ls hP hD hS hl
              refine lv_aload_n hx hb dX9_isGood_163 rfl (lv_at hl 0 rfl) ?_
              refine va_get (D := D) (ci := 9) (v := .ref (hM 5)) (C := RX9) (T := TX9) (N := 23) hx hb hts hi9 hown hK hP 0 rfl rfl 6 (Nat.le_of_ble_eq_true rfl) (hts _ (List.mem_cons_of_mem _ wd_658)) (fun _ h9 => h9) rfl dX9_isGood_164 ?_
              refine lv_iconst (v := 1) hx hb dX9_isGood_167 (by decide) ?_
              refine lv_dup2_11 hx hb dX9_isGood_168 rfl rfl ?_
              refine va_iald (n := 2) (f := M_33 6) (cA := cI) hx hb hK hP 5 0 rfl rfl (z_in (by decide)) dX9_isGood_169 ?_
              refine z_tc (k := 1) (by decide) ?_
              refine lv_iconst (v := 1) hx hb dX9_isGood_170 (by decide) ?_
              refine lv_iadd hx hb dX9_isGood_171 ?_
              obtain ⟨M_35, e_M_35, hf⟩ := zv_some hf
              refine va_iast (n := 2) (f := M_33 6) (cA := cI) hx hb hK hP hD hS 5 0 rfl rfl (z_in (by decide)) dX9_isGood_172 (fun H locs hP hD hS => ?_)
              have hP : va_P D vwCl (w9 cI cB hM (zs M_33 6 (upd (M_33 6) 1 ((M_33 6 1) + 1)))) H := hP
              have hD : va_D A (w9 cI cB hM (zs M_33 6 (upd (M_33 6) 1 ((M_33 6 1) + 1)))) := hD
              rw [← e_M_35] at hP hD
              refine lv_iconst (v := 1) hx hb dX9_isGood_173 (by decide) ?_
              cases hf
              exact zretB hx hb hr hlocks rfl hK hP hD hS dX9_isGood_174
            · replace hf := zit c_27 hf
              refine lv_iconst (v := 0) hx hb dX9_isGood_124 (by decide) ?_
              cases hf
              exact zretB hx hb hr hlocks rfl hK hP hD hS dX9_isGood_125
  · replace hf := zit c_2 hf
    refine lv_iload_n hx hb dX9_isGood_13 rfl (lv_at hl 0 rfl) ?_
    refine lv_i2l hx hb dX9_isGood_14 rfl ?_
    refine lv_ldc2 (v := 80) hx hb hown (hts _ (List.mem_cons_of_mem _ wd_756)) dX9_isGood_15 ?_
    refine lv_ldc2 (v := 120) hx hb hown (hts _ (List.mem_cons_of_mem _ wd_757)) dX9_isGood_18 ?_
    obtain ⟨r36, hq37, hf⟩ := zb1_some hf
    refine zcallSi (rest := []) ⟨hx, hb, hml, hown, hts⟩ (c_X9_in l D cI cB (x1.toInt64) 80 120 r36 hq37) (z_cwS 3 hts (z_gS hG wd_727 wd_728 wd_15 wd_729) rfl rfl rfl q_X9_in ⟨Nat.le_of_ble_eq_true rfl, Nat.le_of_ble_eq_true rfl⟩) hK hP hD hS hA rfl hl.1 (Nat.le_of_ble_eq_true rfl) dX9_isGood_21 ⟨Nat.zero_le _, Nat.zero_le _⟩ rfl (fun H locs hP hD hS => ?_)
    refine lv_if_eq (tgt := 38) hx hb dX9_isGood_24 (by decide) (fun c_38 => ?_) (fun c_38 => ?_)
    · replace hf := zit c_38 hf
      refine lv_iconst (v := 0) hx hb dX9_isGood_38 (by decide) ?_
      cases hf
      exact zretB hx hb hr hlocks rfl hK hP hD hS dX9_isGood_39
    · replace hf := zif c_38 hf
      refine lv_aload_n hx hb dX9_isGood_27 rfl (lv_at hl 1 rfl) ?_
      refine va_get (D := D) (ci := 9) (v := .ref (hM 3)) (C := RX9) (T := TX9) (N := 23) hx hb hts hi9 hown hK hP 0 rfl rfl 4 (Nat.le_of_ble_eq_true rfl) (hts _ (List.mem_cons_of_mem _ wd_656)) (fun _ h9 => h9) rfl dX9_isGood_28 ?_
      refine lv_iconst (v := 1) hx hb dX9_isGood_31 (by decide) ?_
      refine va_iald (n := 2) (f := M 4) (cA := cI) hx hb hK hP 3 0 rfl rfl (z_in (by decide)) dX9_isGood_32 ?_
      refine z_tc (k := 1) (by decide) ?_
      refine lv_bipush (v := 6) hx hb dX9_isGood_33 (by decide) ?_
      refine lv_icmp_ne (tgt := 40) hx hb dX9_isGood_35 (by decide) (fun c_39 => ?_) (fun c_39 => ?_)
      · replace hf := zif c_39 hf
        refine lv_aload_n hx hb dX9_isGood_40 rfl (lv_at hl 1 rfl) ?_
        refine va_get (D := D) (ci := 9) (v := .ref (hM 4)) (C := RX9) (T := TX9) (N := 23) hx hb hts hi9 hown hK hP 0 rfl rfl 5 (Nat.le_of_ble_eq_true rfl) (hts _ (List.mem_cons_of_mem _ wd_657)) (fun _ h9 => h9) rfl dX9_isGood_41 ?_
        refine lv_bipush (v := 6) hx hb dX9_isGood_44 (by decide) ?_
        refine lv_aload_n hx hb dX9_isGood_46 rfl (lv_at hl 1 rfl) ?_
        refine va_get (D := D) (ci := 9) (v := .ref (hM 3)) (C := RX9) (T := TX9) (N := 23) hx hb hts hi9 hown hK hP 0 rfl rfl 4 (Nat.le_of_ble_eq_true rfl) (hts _ (List.mem_cons_of_mem _ wd_656)) (fun _ h9 => h9) rfl dX9_isGood_47 ?_
        refine lv_iconst (v := 1) hx hb dX9_isGood_50 (by decide) ?_
        refine va_iald (n := 2) (f := M 4) (cA := cI) hx hb hK hP 3 0 rfl rfl (z_in (by decide)) dX9_isGood_51 ?_
        refine z_tc (k := 1) (by decide) ?_
        refine lv_iadd hx hb dX9_isGood_52 ?_
        refine lv_iload_n hx hb dX9_isGood_53 rfl (lv_at hl 0 rfl) ?_
        obtain ⟨i_M_40, M_40, e_M_40, hf⟩ := zw_some hf
        refine va_iast (n := 12) (f := M 5) (cA := cI) hx hb hK hP hD hS 4 0 rfl rfl i_M_40 dX9_isGood_54 (fun H locs hP hD hS => ?_)
        have hP : va_P D vwCl (w9 cI cB hM (zs M 5 (upd (M 5) ((6 : Int32) + (M 4 1)).toNatClampNeg x1))) H := hP
        have hD : va_D A (w9 cI cB hM (zs M 5 (upd (M 5) ((6 : Int32) + (M 4 1)).toNatClampNeg x1))) := hD
        rw [← e_M_40] at hP hD
        refine lv_aload_n hx hb dX9_isGood_55 rfl (lv_at hl 1 rfl) ?_
        refine va_get (D := D) (ci := 9) (v := .ref (hM 3)) (C := RX9) (T := TX9) (N := 23) hx hb hts hi9 hown hK hP 0 rfl rfl 4 (Nat.le_of_ble_eq_true rfl) (hts _ (List.mem_cons_of_mem _ wd_656)) (fun _ h9 => h9) rfl dX9_isGood_56 ?_
        refine lv_iconst (v := 1) hx hb dX9_isGood_59 (by decide) ?_
        refine lv_dup2_11 hx hb dX9_isGood_60 rfl rfl ?_
        refine va_iald (n := 2) (f := M_40 4) (cA := cI) hx hb hK hP 3 0 rfl rfl (z_in (by decide)) dX9_isGood_61 ?_
        refine z_tc (k := 1) (by decide) ?_
        refine lv_iconst (v := 1) hx hb dX9_isGood_62 (by decide) ?_
        refine lv_iadd hx hb dX9_isGood_63 ?_
        obtain ⟨M_41, e_M_41, hf⟩ := zv_some hf
        refine va_iast (n := 2) (f := M_40 4) (cA := cI) hx hb hK hP hD hS 3 0 rfl rfl (z_in (by decide)) dX9_isGood_64 (fun H locs hP hD hS => ?_)
        have hP : va_P D vwCl (w9 cI cB hM (zs M_40 4 (upd (M_40 4) 1 ((M_40 4 1) + 1)))) H := hP
        have hD : va_D A (w9 cI cB hM (zs M_40 4 (upd (M_40 4) 1 ((M_40 4 1) + 1)))) := hD
        rw [← e_M_41] at hP hD
        refine lv_iconst (v := 1) hx hb dX9_isGood_65 (by decide) ?_
        cases hf
        exact zretB hx hb hr hlocks rfl hK hP hD hS dX9_isGood_66
      · replace hf := zit c_39 hf
        refine lv_iconst (v := 0) hx hb dX9_isGood_38 (by decide) ?_
        cases hf
        exact zretB hx hb hr hlocks rfl hK hP hD hS dX9_isGood_39
def L_X9_isItem_38 (l1 : Int32) (l2 : Int32) : Nat → Int32 → Int32 → zMm → Option (Int32 × Int32 × zMm)
  | 0, _, _, _ => none
  | n + 1, l3, l4, M => if l2 ≤ l4 then some (l3, l4, M) else if l3 = 0 then some (l3, l4, M) else zb1 (if l4 = 0 then some (1 : Int32) else if (M 0 0) ≤ (M 2 0) then some (0 : Int32) else zl 300 (M 1) (M 2 0) (fun v16 => if v16 = 44 then some (1 : Int32) else some (0 : Int32))) (fun (y12 : Int32) => zb1 (if l4 = 0 then some (0 : Int32) else some (1 : Int32)) (fun (y19 : Int32) => zv (zs M 2 (fun _ => (M 2 0) + y19)) (fun (M_22 : zMm) => zb2 (if y12 = 0 then some (M_22, ((-1) : Int32)) else zb2 (f_X9_number M_22) (fun (r28 : Int32) (M_29 : zMm) => some (M_29, r28))) (fun (M_24 : zMm) (y25 : Int32) => zw 3 M_24 22 l4 y25 (fun M_31 => zl 3 (M_31 22) l4 (fun v32 => zb1 (if v32 < 0 then some (0 : Int32) else some (1 : Int32)) (fun (y34 : Int32) => zv (l4 + 1) (fun (x37 : Int32) => L_X9_isItem_38 l1 l2 n y34 x37 M_31))))))))
def f_X9_isItem (M : zMm) : Option (Int32 × zMm) := zl 300 (M 1) (M 2 0) (fun v1 => zv (zs M 2 (fun _ => (M 2 0) + 1)) (fun (M_2 : zMm) => zb1 (f_X9_numbers v1) (fun (r3 : Int32) => zb1 (if r3 ≤ 0 then some (0 : Int32) else some (1 : Int32)) (fun (y6 : Int32) => zb3 (L_X9_isItem_38 v1 r3 100000 y6 0 M_2) (fun (x38 : Int32) (x39 : Int32) (M_40 : zMm) => zb1 (if x38 = 0 then some (0 : Int32) else if (M_40 0 0) ≤ (M_40 2 0) then some (0 : Int32) else zl 300 (M_40 1) (M_40 2 0) (fun v47 => if v47 = 59 then some (1 : Int32) else some (0 : Int32))) (fun (y43 : Int32) => zv (zs M_40 2 (fun _ => (M_40 2 0) + 1)) (fun (M_49 : zMm) => if y43 = 0 then some ((0 : Int32), M_49) else zb2 (f_X9_isGood M_49 v1) (fun (r51 : Int32) (M_52 : zMm) => if r51 = 0 then some ((0 : Int32), M_52) else some ((1 : Int32), M_52)))))))))
abbrev ww_X9_isItem : List Cond := Cond.code yX9_isItem cX9_isItem 5 (some .boolean) :: wG
theorem q_X9_isItem : yX9_isItem.cls = RX9 ∧ yX9_isItem.cls ≠ "java/lang/invoke/MethodHandle" ∧ yX9_isItem.cls ≠ "java/lang/invoke/VarHandle" ∧ (parseMethodDescriptor yX9_isItem.desc).map (fun d => d.parameters.length) = some 0 := by decide +kernel
set_option maxHeartbeats 4000000 in
set_option maxRecDepth 100000 in
theorem c_X9_isItem (l : Launch) (D : va_G) (cI cB : ClassId) (hM : Nat → Nat) (M : zMm) (r0 : Int32) (M0 : zMm) (hf : f_X9_isItem M = some (r0, M0)) : zMi l yX9_isItem ww_X9_isItem ({ frames := 2, cells := 0, slots := 0, locals := 48 } : Room) D cI cB [.ref (hM 0)] (w9 cI cB hM M) r0 (w9 cI cB hM M0) := by
  refine zofI (cc := cX9_isItem) (maxL := 5) (ret := (some .boolean)) (by decide +kernel) rfl (Nat.le_of_ble_eq_true rfl) ?_
  intro p e s m below meth c A ls hx hb hml hr hown hts hlocks hK hP hD hS hA hl
  have hl : lv_has ls 5 [(0, .ref (hM 0))] := hl
  have hown : s.vm.findClass RX9 = some m.cls := hown
  have hG : ∀ w ∈ wG, w ∈ ww_X9_isItem := fun w h => List.mem_cons_of_mem _ h
  have hi9 : ∀ w ∈ wsX90, w ∈ ww_X9_isItem := fun w h => List.mem_cons_of_mem _ (z_inX9 w h)
  have L38 : ∀ (l1 : Int32) (l2 : Int32) (n : Nat) (l3 : Int32) (l4 : Int32) (M : zMm) (o3 : Int32) (o4 : Int32) (oM : zMm), L_X9_isItem_38 l1 l2 n l3 l4 M = some (o3, o4, oM) → zAt p l e ({ frames := 2, cells := 0, slots := 0, locals := 48 } : Room) s m [.ref (hM 0)].toArray below meth c (MQ below (zQi D cI cB r0 (w9 cI cB hM M0) A) [.ref (hM 0)].toArray s 0 0 A) A D 5 (w9 cI cB hM oM) [(0, .ref (hM 0)), (1, .int l1), (2, .int l2), (3, .int o3), (4, .int o4)] 144 [] → zAt p l e ({ frames := 2, cells := 0, slots := 0, locals := 48 } : Room) s m [.ref (hM 0)].toArray below meth c (MQ below (zQi D cI cB r0 (w9 cI cB hM M0) A) [.ref (hM 0)].toArray s 0 0 A) A D 5 (w9 cI cB hM M) [(0, .ref (hM 0)), (1, .int l1), (2, .int l2), (3, .int l3), (4, .int l4)] 38 [] := by
    intro l1 l2 n
    induction n with
    | zero => intro l3 l4 M o3 o4 oM hf; simp [L_X9_isItem_38] at hf
    | succ n ih =>
      intro l3 l4 M o3 o4 oM hf hk H locs ls hP hD hS hl
      rw [L_X9_isItem_38] at hf
      refine lv_iload hx hb dX9_isItem_38 (lv_at hl 4 rfl) ?_
      refine lv_iload_n hx hb dX9_isItem_40 rfl (lv_at hl 2 rfl) ?_
      refine lv_icmp_ge (tgt := 144) hx hb dX9_isItem_41 (by decide) (fun c_9 => ?_) (fun c_9 => ?_)
      · replace hf := zit c_9 hf
        cases hf
        exact hk _ _ _ hP hD hS (lv_sub hl [0, 1, 2, 3, 4] rfl)
      · replace hf := zif c_9 hf
        refine lv_iload_n hx hb dX9_isItem_44 rfl (lv_at hl 3 rfl) ?_
        refine lv_if_eq (tgt := 144) hx hb dX9_isItem_45 (by decide) (fun c_10 => ?_) (fun c_10 => ?_)
        · replace hf := zit c_10 hf
          cases hf
          exact hk _ _ _ hP hD hS (lv_sub hl [0, 1, 2, 3, 4] rfl)
        · replace hf := zif c_10 hf
          refine lv_iload hx hb dX9_isItem_48 (lv_at hl 4 rfl) ?_
          obtain ⟨y12, hq13, hf⟩ := zb1_some hf
          have J14 : zAt p l e ({ frames := 2, cells := 0, slots := 0, locals := 48 } : Room) s m [.ref (hM 0)].toArray below meth c (MQ below (zQi D cI cB r0 (w9 cI cB hM M0) A) [.ref (hM 0)].toArray s 0 0 A) A D 5 (w9 cI cB hM M) [(0, .ref (hM 0)), (1, .int l1), (2, .int l2), (3, .int l3), (4, .int l4)] 83 [.int y12] := by
            intro H locs ls hP hD hS hl
            refine lv_istore_n (lv' := [(3, .int y12), (0, .ref (hM 0)), (1, .int l1), (2, .int l2), (4, .int l4)]) hx hb dX9_isItem_83 rfl hl (by decide) rfl (fun ls hl => ?_)
            refine lv_aload_n hx hb dX9_isItem_84 rfl (lv_at hl 1 rfl) ?_
            refine lv_dup hx hb dX9_isItem_85 rfl ?_
            refine va_get (D := D) (ci := 9) (v := .int (M 2 0)) (C := RX9) (T := TX9) (N := 23) hx hb hts hi9 hown hK hP 0 rfl rfl 2 (Nat.le_of_ble_eq_true rfl) (hts _ (List.mem_cons_of_mem _ wd_654)) (fun _ h9 => h9) rfl dX9_isItem_86 ?_
            refine lv_iload hx hb dX9_isItem_89 (lv_at hl 4 rfl) ?_
            obtain ⟨y19, hq20, hf⟩ := zb1_some hf
            have J21 : zAt p l e ({ frames := 2, cells := 0, slots := 0, locals := 48 } : Room) s m [.ref (hM 0)].toArray below meth c (MQ below (zQi D cI cB r0 (w9 cI cB hM M0) A) [.ref (hM 0)].toArray s 0 0 A) A D 5 (w9 cI cB hM M) [(0, .ref (hM 0)), (1, .int l1), (2, .int l2), (3, .int y12), (4, .int l4)] 99 [.int y19, .int (M 2 0), .ref (hM 0)] := by
              intro H locs ls hP hD hS hl
              refine lv_iadd hx hb dX9_isItem_99 ?_
              obtain ⟨M_22, e_M_22, hf⟩ := zv_some hf
              refine va_put (D := D) (ci := 9) (v := .int ((M 2 0) + y19)) (ty := .int) (C := RX9) (T := TX9) (N := 23) hx hb hts hi9 tyX9 tyX9_ok nmX9 hown hK hP hD hS 0 rfl rfl 2 (Nat.le_of_ble_eq_true rfl) (hts _ (List.mem_cons_of_mem _ wd_654)) (fun _ h9 => h9) rfl (by decide +kernel) rfl rfl (Nat.le_of_ble_eq_true rfl) dX9_isItem_100 (fun H locs hP hD hS => ?_)
              have hP : va_P D vwCl (w9 cI cB hM (zs M 2 (fun _ => (M 2 0) + y19))) H := hP
              have hD : va_D A (w9 cI cB hM (zs M 2 (fun _ => (M 2 0) + y19))) := hD
              rw [← e_M_22] at hP hD
              refine lv_aload_n hx hb dX9_isItem_103 rfl (lv_at hl 0 rfl) ?_
              refine va_get (D := D) (ci := 9) (v := .ref (hM 17)) (C := RX9) (T := TX9) (N := 23) hx hb hts hi9 hown hK hP 0 rfl rfl 22 (Nat.le_of_ble_eq_true rfl) (hts _ (List.mem_cons_of_mem _ wd_674)) (fun _ h9 => h9) rfl dX9_isItem_104 ?_
              refine lv_iload hx hb dX9_isItem_107 (lv_at hl 4 rfl) ?_
              refine lv_iload_n hx hb dX9_isItem_109 rfl (lv_at hl 3 rfl) ?_
              obtain ⟨M_24, y25, hq26, hf⟩ := zb2_some hf
              have J27 : zAt p l e ({ frames := 2, cells := 0, slots := 0, locals := 48 } : Room) s m [.ref (hM 0)].toArray below meth c (MQ below (zQi D cI cB r0 (w9 cI cB hM M0) A) [.ref (hM 0)].toArray s 0 0 A) A D 5 (w9 cI cB hM M_24) [(0, .ref (hM 0)), (1, .int l1), (2, .int l2), (3, .int y12), (4, .int l4)] 121 [.int y25, .int l4, .ref (hM 17)] := by
                intro H locs ls hP hD hS hl
                obtain ⟨i_M_31, M_31, e_M_31, hf⟩ := zw_some hf
                refine va_iast (n := 3) (f := M_24 22) (cA := cI) hx hb hK hP hD hS 17 0 rfl rfl i_M_31 dX9_isItem_121 (fun H locs hP hD hS => ?_)
                have hP : va_P D vwCl (w9 cI cB hM (zs M_24 22 (upd (M_24 22) l4.toNatClampNeg y25))) H := hP
                have hD : va_D A (w9 cI cB hM (zs M_24 22 (upd (M_24 22) l4.toNatClampNeg y25))) := hD
                rw [← e_M_31] at hP hD
                refine lv_aload_n hx hb dX9_isItem_122 rfl (lv_at hl 0 rfl) ?_
                refine va_get (D := D) (ci := 9) (v := .ref (hM 17)) (C := RX9) (T := TX9) (N := 23) hx hb hts hi9 hown hK hP 0 rfl rfl 22 (Nat.le_of_ble_eq_true rfl) (hts _ (List.mem_cons_of_mem _ wd_674)) (fun _ h9 => h9) rfl dX9_isItem_123 ?_
                refine lv_iload hx hb dX9_isItem_126 (lv_at hl 4 rfl) ?_
                obtain ⟨i_v32, v32, e_v32, hf⟩ := zl_some hf
                refine va_iald (n := 3) (f := M_31 22) (cA := cI) hx hb hK hP 17 0 rfl rfl i_v32 dX9_isItem_128 ?_
                refine zt e_v32 ?_
                obtain ⟨y34, hq35, hf⟩ := zb1_some hf
                have J36 : zAt p l e ({ frames := 2, cells := 0, slots := 0, locals := 48 } : Room) s m [.ref (hM 0)].toArray below meth c (MQ below (zQi D cI cB r0 (w9 cI cB hM M0) A) [.ref (hM 0)].toArray s 0 0 A) A D 5 (w9 cI cB hM M_31) [(0, .ref (hM 0)), (1, .int l1), (2, .int l2), (3, .int y12), (4, .int l4)] 137 [.int y34] := by
                  intro H locs ls hP hD hS hl
                  refine lv_istore_n (lv' := [(3, .int y34), (0, .ref (hM 0)), (1, .int l1), (2, .int l2), (4, .int l4)]) hx hb dX9_isItem_137 rfl hl (by decide) rfl (fun ls hl => ?_)
                  obtain ⟨x37, e_x37, hf⟩ := zv_some hf
                  refine lv_iinc (v := x37) (lv' := [(4, .int x37), (3, .int y34), (0, .ref (hM 0)), (1, .int l1), (2, .int l2)]) hx hb dX9_isItem_138 hl (k := 4) rfl (by rw [e_x37]; rfl) (by decide) rfl (fun ls hl => ?_)
                  refine lv_goto (tgt := 38) hx hb dX9_isItem_141 (by decide) ?_
                  exact ih _ _ _ _ _ _ hf hk _ _ _ hP hD hS (lv_sub hl [2, 3, 4, 1, 0] rfl)
                replace hf := hq35
                refine lv_if_lt (tgt := 136) hx hb dX9_isItem_129 (by decide) (fun c_33 => ?_) (fun c_33 => ?_)
                · replace hf := zit c_33 hf
                  refine lv_iconst (v := 0) hx hb dX9_isItem_136 (by decide) ?_
                  cases hf
                  exact J36 _ _ _ hP hD hS (lv_sub hl [0, 1, 2, 3, 4] rfl)
                · replace hf := zif c_33 hf
                  refine lv_iconst (v := 1) hx hb dX9_isItem_132 (by decide) ?_
                  refine lv_goto (tgt := 137) hx hb dX9_isItem_133 (by decide) ?_
                  cases hf
                  exact J36 _ _ _ hP hD hS (lv_sub hl [0, 1, 2, 3, 4] rfl)
              replace hf := hq26
              refine lv_if_eq (tgt := 120) hx hb dX9_isItem_110 (by decide) (fun c_23 => ?_) (fun c_23 => ?_)
              · replace hf := zit c_23 hf
                refine lv_iconst (v := (-1)) hx hb dX9_isItem_120 (by decide) ?_
                cases hf
                exact J27 _ _ _ hP hD hS (lv_sub hl [0, 1, 2, 3, 4] rfl)
              · replace hf := zif c_23 hf
                refine lv_aload_n hx hb dX9_isItem_113 rfl (lv_at hl 0 rfl) ?_
                obtain ⟨r28, M_29, hq30, hf⟩ := zb2_some hf
                refine zcallVi (ws2 := (w9 cI cB hM M_29)) (rest := [.int l4, .ref (hM 17)]) ⟨hx, hb, hml, hown, hts⟩ (c_X9_number l D cI cB hM M_22 r28 M_29 hq30) (cwV 0 hts (z_gV hG wd_745 wd_747 wd_s24 wd_15 wd_748) rfl rfl rfl q_X9_number ⟨Nat.le_of_ble_eq_true rfl, Nat.le_of_ble_eq_true rfl⟩) hK hP hD hS hA 9 rfl rfl rfl [0, 1, 2, 3, 4, 5, 6, 7, 8, 9, 10, 11, 12, 13, 14, 15, 16, 17] [] rfl rfl rfl rfl rfl rfl rfl hl.1 (Nat.le_of_ble_eq_true rfl) dX9_isItem_114 ⟨Nat.zero_le _, Nat.zero_le _⟩ rfl (fun H locs hP hD hS => ?_)
                refine lv_goto (tgt := 121) hx hb dX9_isItem_117 (by decide) ?_
                cases hf
                exact J27 _ _ _ hP hD hS (lv_sub hl [0, 1, 2, 3, 4] rfl)
            replace hf := hq20
            refine lv_if_ne (tgt := 98) hx hb dX9_isItem_91 (by decide) (fun c_18 => ?_) (fun c_18 => ?_)
            · replace hf := zif c_18 hf
              refine lv_iconst (v := 1) hx hb dX9_isItem_98 (by decide) ?_
              cases hf
              exact J21 _ _ _ hP hD hS (lv_sub hl [1, 2, 3, 0, 4] rfl)
            · replace hf := zit c_18 hf
              refine lv_iconst (v := 0) hx hb dX9_isItem_94 (by decide) ?_
              refine lv_goto (tgt := 99) hx hb dX9_isItem_95 (by decide) ?_
              cases hf
              exact J21 _ _ _ hP hD hS (lv_sub hl [1, 2, 3, 0, 4] rfl)
          replace hf := hq13
          refine lv_if_eq (tgt := 78) hx hb dX9_isItem_50 (by decide) (fun c_11 => ?_) (fun c_11 => ?_)
          · replace hf := zit c_11 hf
            refine lv_iconst (v := 1) hx hb dX9_isItem_78 (by decide) ?_
            refine lv_goto (tgt := 83) hx hb dX9_isItem_79 (by decide) ?_
            cases hf
            exact J14 _ _ _ hP hD hS (lv_sub hl [0, 1, 2, 3, 4] rfl)
          · replace hf := zif c_11 hf
            refine lv_aload_n hx hb dX9_isItem_53 rfl (lv_at hl 0 rfl) ?_
            refine va_get (D := D) (ci := 9) (v := .int (M 2 0)) (C := RX9) (T := TX9) (N := 23) hx hb hts hi9 hown hK hP 0 rfl rfl 2 (Nat.le_of_ble_eq_true rfl) (hts _ (List.mem_cons_of_mem _ wd_654)) (fun _ h9 => h9) rfl dX9_isItem_54 ?_
            refine lv_aload_n hx hb dX9_isItem_57 rfl (lv_at hl 0 rfl) ?_
            refine va_get (D := D) (ci := 9) (v := .int (M 0 0)) (C := RX9) (T := TX9) (N := 23) hx hb hts hi9 hown hK hP 0 rfl rfl 0 (Nat.le_of_ble_eq_true rfl) (hts _ (List.mem_cons_of_mem _ wd_652)) (fun _ h9 => h9) rfl dX9_isItem_58 ?_
            refine lv_icmp_ge (tgt := 82) hx hb dX9_isItem_61 (by decide) (fun c_15 => ?_) (fun c_15 => ?_)
            · replace hf := zit c_15 hf
              refine lv_iconst (v := 0) hx hb dX9_isItem_82 (by decide) ?_
              cases hf
              exact J14 _ _ _ hP hD hS (lv_sub hl [0, 1, 2, 3, 4] rfl)
            · replace hf := zif c_15 hf
              refine lv_aload_n hx hb dX9_isItem_64 rfl (lv_at hl 0 rfl) ?_
              refine va_get (D := D) (ci := 9) (v := .ref (hM 1)) (C := RX9) (T := TX9) (N := 23) hx hb hts hi9 hown hK hP 0 rfl rfl 1 (Nat.le_of_ble_eq_true rfl) (hts _ (List.mem_cons_of_mem _ wd_653)) (fun _ h9 => h9) rfl dX9_isItem_65 ?_
              refine lv_aload_n hx hb dX9_isItem_68 rfl (lv_at hl 0 rfl) ?_
              refine va_get (D := D) (ci := 9) (v := .int (M 2 0)) (C := RX9) (T := TX9) (N := 23) hx hb hts hi9 hown hK hP 0 rfl rfl 2 (Nat.le_of_ble_eq_true rfl) (hts _ (List.mem_cons_of_mem _ wd_654)) (fun _ h9 => h9) rfl dX9_isItem_69 ?_
              obtain ⟨i_v16, v16, e_v16, hf⟩ := zl_some hf
              refine va_bald (n := 300) (f := M 1) (cA := cB) hx hb hK hP 1 1 rfl rfl i_v16 dX9_isItem_72 ?_
              refine zt e_v16 ?_
              refine lv_bipush (v := 44) hx hb dX9_isItem_73 (by decide) ?_
              refine lv_icmp_ne (tgt := 82) hx hb dX9_isItem_75 (by decide) (fun c_17 => ?_) (fun c_17 => ?_)
              · replace hf := zif c_17 hf
                refine lv_iconst (v := 0) hx hb dX9_isItem_82 (by decide) ?_
                cases hf
                exact J14 _ _ _ hP hD hS (lv_sub hl [0, 1, 2, 3, 4] rfl)
              · replace hf := zit c_17 hf
                refine lv_iconst (v := 1) hx hb dX9_isItem_78 (by decide) ?_
                refine lv_goto (tgt := 83) hx hb dX9_isItem_79 (by decide) ?_
                cases hf
                exact J14 _ _ _ hP hD hS (lv_sub hl [0, 1, 2, 3, 4] rfl)
  unfold f_X9_isItem at hf
  refine lv_aload_n hx hb dX9_isItem_0 rfl (lv_at hl 0 rfl) ?_
  refine va_get (D := D) (ci := 9) (v := .ref (hM 1)) (C := RX9) (T := TX9) (N := 23) hx hb hts hi9 hown hK hP 0 rfl rfl 1 (Nat.le_of_ble_eq_true rfl) (hts _ (List.mem_cons_of_mem _ wd_653)) (fun _ h9 => h9) rfl dX9_isItem_1 ?_
  refine lv_aload_n hx hb dX9_isItem_4 rfl (lv_at hl 0 rfl) ?_
  refine va_get (D := D) (ci := 9) (v := .int (M 2 0)) (C := RX9) (T := TX9) (N := 23) hx hb hts hi9 hown hK hP 0 rfl rfl 2 (Nat.le_of_ble_eq_true rfl) (hts _ (List.mem_cons_of_mem _ wd_654)) (fun _ h9 => h9) rfl dX9_isItem_5 ?_
  obtain ⟨i_v1, v1, e_v1, hf⟩ := zl_some hf
  refine va_bald (n := 300) (f := M 1) (cA := cB) hx hb hK hP 1 1 rfl rfl i_v1 dX9_isItem_8 ?_
  refine zt e_v1 ?_
  refine lv_istore_n (lv' := [(1, .int v1), (0, .ref (hM 0))]) hx hb dX9_isItem_9 rfl hl (by decide) rfl (fun ls hl => ?_)
  refine lv_aload_n hx hb dX9_isItem_10 rfl (lv_at hl 1 rfl) ?_
  refine lv_dup hx hb dX9_isItem_11 rfl ?_
  refine va_get (D := D) (ci := 9) (v := .int (M 2 0)) (C := RX9) (T := TX9) (N := 23) hx hb hts hi9 hown hK hP 0 rfl rfl 2 (Nat.le_of_ble_eq_true rfl) (hts _ (List.mem_cons_of_mem _ wd_654)) (fun _ h9 => h9) rfl dX9_isItem_12 ?_
  refine lv_iconst (v := 1) hx hb dX9_isItem_15 (by decide) ?_
  refine lv_iadd hx hb dX9_isItem_16 ?_
  obtain ⟨M_2, e_M_2, hf⟩ := zv_some hf
  refine va_put (D := D) (ci := 9) (v := .int ((M 2 0) + 1)) (ty := .int) (C := RX9) (T := TX9) (N := 23) hx hb hts hi9 tyX9 tyX9_ok nmX9 hown hK hP hD hS 0 rfl rfl 2 (Nat.le_of_ble_eq_true rfl) (hts _ (List.mem_cons_of_mem _ wd_654)) (fun _ h9 => h9) rfl (by decide +kernel) rfl rfl (Nat.le_of_ble_eq_true rfl) dX9_isItem_17 (fun H locs hP hD hS => ?_)
  have hP : va_P D vwCl (w9 cI cB hM (zs M 2 (fun _ => (M 2 0) + 1))) H := hP
  have hD : va_D A (w9 cI cB hM (zs M 2 (fun _ => (M 2 0) + 1))) := hD
  rw [← e_M_2] at hP hD
  refine lv_iload_n hx hb dX9_isItem_20 rfl (lv_at hl 0 rfl) ?_
  obtain ⟨r3, hq4, hf⟩ := zb1_some hf
  refine zcallSi (rest := []) ⟨hx, hb, hml, hown, hts⟩ (c_X9_numbers l D cI cB v1 r3 hq4) (z_cwS 1 hts (z_gS hG wd_742 wd_743 wd_15 wd_744) rfl rfl rfl q_X9_numbers ⟨Nat.le_of_ble_eq_true rfl, Nat.le_of_ble_eq_true rfl⟩) hK hP hD hS hA rfl hl.1 (Nat.le_of_ble_eq_true rfl) dX9_isItem_21 ⟨Nat.zero_le _, Nat.zero_le _⟩ rfl (fun H locs hP hD hS => ?_)
  refine lv_istore_n (lv' := [(2, .int r3), (1, .int v1), (0, .ref (hM 0))]) hx hb dX9_isItem_24 rfl hl (by decide) rfl (fun ls hl => ?_)
  refine lv_iload_n hx hb dX9_isItem_25 rfl (lv_at hl 0 rfl) ?_
  obtain ⟨y6, hq7, hf⟩ := zb1_some hf
  have J8 : zAt p l e ({ frames := 2, cells := 0, slots := 0, locals := 48 } : Room) s m [.ref (hM 0)].toArray below meth c (MQ below (zQi D cI cB r0 (w9 cI cB hM M0) A) [.ref (hM 0)].toArray s 0 0 A) A D 5 (w9 cI cB hM M_2) [(0, .ref (hM 0)), (1, .int v1), (2, .int r3)] 34 [.int y6] := by
    intro H locs ls hP hD hS hl
    refine lv_istore_n (lv' := [(3, .int y6), (0, .ref (hM 0)), (1, .int v1), (2, .int r3)]) hx hb dX9_isItem_34 rfl hl (by decide) rfl (fun ls hl => ?_)
    refine lv_iconst (v := 0) hx hb dX9_isItem_35 (by decide) ?_
    refine lv_istore (lv' := [(4, .int 0), (3, .int y6), (0, .ref (hM 0)), (1, .int v1), (2, .int r3)]) hx hb dX9_isItem_36 hl (by decide) rfl (fun ls hl => ?_)
    obtain ⟨x38, x39, M_40, hq41, hf⟩ := zb3_some hf
    refine L38 _ _ _ _ _ _ _ _ _ hq41 ?_ _ _ _ hP hD hS (lv_sub hl [2, 3, 4, 1, 0] rfl)
    intro H locs ls hP hD hS hl
    refine lv_iload_n hx hb dX9_isItem_144 rfl (lv_at hl 3 rfl) ?_
    obtain ⟨y43, hq44, hf⟩ := zb1_some hf
    have J45 : zAt p l e ({ frames := 2, cells := 0, slots := 0, locals := 48 } : Room) s m [.ref (hM 0)].toArray below meth c (MQ below (zQi D cI cB r0 (w9 cI cB hM M0) A) [.ref (hM 0)].toArray s 0 0 A) A D 5 (w9 cI cB hM M_40) [(0, .ref (hM 0)), (1, .int v1), (2, .int r3), (3, .int x38), (4, .int x39)] 178 [.int y43] := by
      intro H locs ls hP hD hS hl
      refine lv_istore_n (lv' := [(3, .int y43), (0, .ref (hM 0)), (1, .int v1), (2, .int r3), (4, .int x39)]) hx hb dX9_isItem_178 rfl hl (by decide) rfl (fun ls hl => ?_)
      refine lv_aload_n hx hb dX9_isItem_179 rfl (lv_at hl 1 rfl) ?_
      refine lv_dup hx hb dX9_isItem_180 rfl ?_
      refine va_get (D := D) (ci := 9) (v := .int (M_40 2 0)) (C := RX9) (T := TX9) (N := 23) hx hb hts hi9 hown hK hP 0 rfl rfl 2 (Nat.le_of_ble_eq_true rfl) (hts _ (List.mem_cons_of_mem _ wd_654)) (fun _ h9 => h9) rfl dX9_isItem_181 ?_
      refine lv_iconst (v := 1) hx hb dX9_isItem_184 (by decide) ?_
      refine lv_iadd hx hb dX9_isItem_185 ?_
      obtain ⟨M_49, e_M_49, hf⟩ := zv_some hf
      refine va_put (D := D) (ci := 9) (v := .int ((M_40 2 0) + 1)) (ty := .int) (C := RX9) (T := TX9) (N := 23) hx hb hts hi9 tyX9 tyX9_ok nmX9 hown hK hP hD hS 0 rfl rfl 2 (Nat.le_of_ble_eq_true rfl) (hts _ (List.mem_cons_of_mem _ wd_654)) (fun _ h9 => h9) rfl (by decide +kernel) rfl rfl (Nat.le_of_ble_eq_true rfl) dX9_isItem_186 (fun H locs hP hD hS => ?_)
      have hP : va_P D vwCl (w9 cI cB hM (zs M_40 2 (fun _ => (M_40 2 0) + 1))) H := hP
      have hD : va_D A (w9 cI cB hM (zs M_40 2 (fun _ => (M_40 2 0) + 1))) := hD
      rw [← e_M_49] at hP hD
      refine lv_iload_n hx hb dX9_isItem_189 rfl (lv_at hl 0 rfl) ?_
      refine lv_if_eq (tgt := 205) hx hb dX9_isItem_190 (by decide) (fun c_50 => ?_) (fun c_50 => ?_)
      · replace hf := zit c_50 hf
        refine lv_iconst (v := 0) hx hb dX9_isItem_205 (by decide) ?_
        cases hf
        exact zretB hx hb hr hlocks rfl hK hP hD hS dX9_isItem_206
      · replace hf := zif c_50 hf
        refine lv_aload_n hx hb dX9_isItem_193 rfl (lv_at hl 1 rfl) ?_
        refine lv_iload_n hx hb dX9_isItem_194 rfl (lv_at hl 2 rfl) ?_
        obtain ⟨r51, M_52, hq53, hf⟩ := zb2_some hf
        refine zcallVi (ws2 := (w9 cI cB hM M_52)) (rest := []) ⟨hx, hb, hml, hown, hts⟩ (c_X9_isGood l D cI cB hM M_49 v1 r51 M_52 hq53) (cwV 1 hts (z_gV hG wd_752 wd_754 wd_s25 wd_15 wd_755) rfl rfl rfl q_X9_isGood ⟨Nat.le_of_ble_eq_true rfl, Nat.le_of_ble_eq_true rfl⟩) hK hP hD hS hA 9 rfl rfl rfl [0, 1, 2, 3, 4, 5, 6, 7, 8, 9, 10, 11, 12, 13, 14, 15, 16, 17] [] rfl rfl rfl rfl rfl rfl rfl hl.1 (Nat.le_of_ble_eq_true rfl) dX9_isItem_195 ⟨Nat.zero_le _, Nat.zero_le _⟩ rfl (fun H locs hP hD hS => ?_)
        refine lv_if_eq (tgt := 205) hx hb dX9_isItem_198 (by decide) (fun c_54 => ?_) (fun c_54 => ?_)
        · replace hf := zit c_54 hf
          refine lv_iconst (v := 0) hx hb dX9_isItem_205 (by decide) ?_
          cases hf
          exact zretB hx hb hr hlocks rfl hK hP hD hS dX9_isItem_206
        · replace hf := zif c_54 hf
          refine lv_iconst (v := 1) hx hb dX9_isItem_201 (by decide) ?_
          refine lv_goto (tgt := 206) hx hb dX9_isItem_202 (by decide) ?_
          cases hf
          exact zretB hx hb hr hlocks rfl hK hP hD hS dX9_isItem_206
    replace hf := hq44
    refine lv_if_eq (tgt := 177) hx hb dX9_isItem_145 (by decide) (fun c_42 => ?_) (fun c_42 => ?_)
    · replace hf := zit c_42 hf
      refine lv_iconst (v := 0) hx hb dX9_isItem_177 (by decide) ?_
      cases hf
      exact J45 _ _ _ hP hD hS (lv_sub hl [0, 1, 2, 3, 4] rfl)
    · replace hf := zif c_42 hf
      refine lv_aload_n hx hb dX9_isItem_148 rfl (lv_at hl 0 rfl) ?_
      refine va_get (D := D) (ci := 9) (v := .int (M_40 2 0)) (C := RX9) (T := TX9) (N := 23) hx hb hts hi9 hown hK hP 0 rfl rfl 2 (Nat.le_of_ble_eq_true rfl) (hts _ (List.mem_cons_of_mem _ wd_654)) (fun _ h9 => h9) rfl dX9_isItem_149 ?_
      refine lv_aload_n hx hb dX9_isItem_152 rfl (lv_at hl 0 rfl) ?_
      refine va_get (D := D) (ci := 9) (v := .int (M_40 0 0)) (C := RX9) (T := TX9) (N := 23) hx hb hts hi9 hown hK hP 0 rfl rfl 0 (Nat.le_of_ble_eq_true rfl) (hts _ (List.mem_cons_of_mem _ wd_652)) (fun _ h9 => h9) rfl dX9_isItem_153 ?_
      refine lv_icmp_ge (tgt := 177) hx hb dX9_isItem_156 (by decide) (fun c_46 => ?_) (fun c_46 => ?_)
      · replace hf := zit c_46 hf
        refine lv_iconst (v := 0) hx hb dX9_isItem_177 (by decide) ?_
        cases hf
        exact J45 _ _ _ hP hD hS (lv_sub hl [0, 1, 2, 3, 4] rfl)
      · replace hf := zif c_46 hf
        refine lv_aload_n hx hb dX9_isItem_159 rfl (lv_at hl 0 rfl) ?_
        refine va_get (D := D) (ci := 9) (v := .ref (hM 1)) (C := RX9) (T := TX9) (N := 23) hx hb hts hi9 hown hK hP 0 rfl rfl 1 (Nat.le_of_ble_eq_true rfl) (hts _ (List.mem_cons_of_mem _ wd_653)) (fun _ h9 => h9) rfl dX9_isItem_160 ?_
        refine lv_aload_n hx hb dX9_isItem_163 rfl (lv_at hl 0 rfl) ?_
        refine va_get (D := D) (ci := 9) (v := .int (M_40 2 0)) (C := RX9) (T := TX9) (N := 23) hx hb hts hi9 hown hK hP 0 rfl rfl 2 (Nat.le_of_ble_eq_true rfl) (hts _ (List.mem_cons_of_mem _ wd_654)) (fun _ h9 => h9) rfl dX9_isItem_164 ?_
        obtain ⟨i_v47, v47, e_v47, hf⟩ := zl_some hf
        refine va_bald (n := 300) (f := M_40 1) (cA := cB) hx hb hK hP 1 1 rfl rfl i_v47 dX9_isItem_167 ?_
        refine zt e_v47 ?_
        refine lv_bipush (v := 59) hx hb dX9_isItem_168 (by decide) ?_
        refine lv_icmp_ne (tgt := 177) hx hb dX9_isItem_170 (by decide) (fun c_48 => ?_) (fun c_48 => ?_)
        · replace hf := zif c_48 hf
          refine lv_iconst (v := 0) hx hb dX9_isItem_177 (by decide) ?_
          cases hf
          exact J45 _ _ _ hP hD hS (lv_sub hl [0, 1, 2, 3, 4] rfl)
        · replace hf := zit c_48 hf
          refine lv_iconst (v := 1) hx hb dX9_isItem_173 (by decide) ?_
          refine lv_goto (tgt := 178) hx hb dX9_isItem_174 (by decide) ?_
          cases hf
          exact J45 _ _ _ hP hD hS (lv_sub hl [0, 1, 2, 3, 4] rfl)
  replace hf := hq7
  refine lv_if_le (tgt := 33) hx hb dX9_isItem_26 (by decide) (fun c_5 => ?_) (fun c_5 => ?_)
  · replace hf := zit c_5 hf
    refine lv_iconst (v := 0) hx hb dX9_isItem_33 (by decide) ?_
    cases hf
    exact J8 _ _ _ hP hD hS (lv_sub hl [2, 1, 0] rfl)
  · replace hf := zif c_5 hf
    refine lv_iconst (v := 1) hx hb dX9_isItem_29 (by decide) ?_
    refine lv_goto (tgt := 34) hx hb dX9_isItem_30 (by decide) ?_
    cases hf
    exact J8 _ _ _ hP hD hS (lv_sub hl [2, 1, 0] rfl)
def f_X9_begins (M : zMm) : Option (zMm) := zv (zs M 4 (upd (M 4) 1 0)) (fun (M_1 : zMm) => zv (zs M_1 6 (upd (M_1 6) 1 0)) (fun (M_2 : zMm) => zv (zs M_2 8 (upd (M_2 8) 1 0)) (fun (M_3 : zMm) => zv (zs M_3 3 (upd (M_3 3) 3 1)) (fun (M_4 : zMm) => zv (zs M_4 3 (upd (M_4 3) 4 0)) (fun (M_5 : zMm) => zv (zs M_5 3 (upd (M_5 3) 5 300)) (fun (M_6 : zMm) => some M_6))))))
abbrev ww_X9_begins : List Cond := Cond.code yX9_begins cX9_begins 1 none :: wG
theorem q_X9_begins : yX9_begins.cls = RX9 ∧ yX9_begins.cls ≠ "java/lang/invoke/MethodHandle" ∧ yX9_begins.cls ≠ "java/lang/invoke/VarHandle" ∧ (parseMethodDescriptor yX9_begins.desc).map (fun d => d.parameters.length) = some 0 := by decide +kernel
set_option maxHeartbeats 4000000 in
set_option maxRecDepth 100000 in
theorem c_X9_begins (l : Launch) (D : va_G) (cI cB : ClassId) (hM : Nat → Nat) (M : zMm) (M0 : zMm) (hf : f_X9_begins M = some M0) : zMv l yX9_begins ww_X9_begins ({ frames := 0, cells := 0, slots := 0, locals := 0 } : Room) D cI cB [.ref (hM 0)] (w9 cI cB hM M) (w9 cI cB hM M0) := by
  refine zofV (cc := cX9_begins) (maxL := 1) (ret := none) (by decide +kernel) rfl (Nat.le_of_ble_eq_true rfl) ?_
  intro p e s m below meth c A ls hx hb hml hr hown hts hlocks hK hP hD hS hA hl
  have hl : lv_has ls 1 [(0, .ref (hM 0))] := hl
  have hown : s.vm.findClass RX9 = some m.cls := hown
  have hG : ∀ w ∈ wG, w ∈ ww_X9_begins := fun w h => List.mem_cons_of_mem _ h
  have hi9 : ∀ w ∈ wsX90, w ∈ ww_X9_begins := fun w h => List.mem_cons_of_mem _ (z_inX9 w h)
  unfold f_X9_begins at hf
  refine lv_aload_n hx hb dX9_begins_0 rfl (lv_at hl 0 rfl) ?_
  refine va_get (D := D) (ci := 9) (v := .ref (hM 3)) (C := RX9) (T := TX9) (N := 23) hx hb hts hi9 hown hK hP 0 rfl rfl 4 (Nat.le_of_ble_eq_true rfl) (hts _ (List.mem_cons_of_mem _ wd_656)) (fun _ h9 => h9) rfl dX9_begins_1 ?_
  refine lv_iconst (v := 1) hx hb dX9_begins_4 (by decide) ?_
  refine lv_iconst (v := 0) hx hb dX9_begins_5 (by decide) ?_
  obtain ⟨M_1, e_M_1, hf⟩ := zv_some hf
  refine va_iast (n := 2) (f := M 4) (cA := cI) hx hb hK hP hD hS 3 0 rfl rfl (z_in (by decide)) dX9_begins_6 (fun H locs hP hD hS => ?_)
  have hP : va_P D vwCl (w9 cI cB hM (zs M 4 (upd (M 4) 1 0))) H := hP
  have hD : va_D A (w9 cI cB hM (zs M 4 (upd (M 4) 1 0))) := hD
  rw [← e_M_1] at hP hD
  refine lv_aload_n hx hb dX9_begins_7 rfl (lv_at hl 0 rfl) ?_
  refine va_get (D := D) (ci := 9) (v := .ref (hM 5)) (C := RX9) (T := TX9) (N := 23) hx hb hts hi9 hown hK hP 0 rfl rfl 6 (Nat.le_of_ble_eq_true rfl) (hts _ (List.mem_cons_of_mem _ wd_658)) (fun _ h9 => h9) rfl dX9_begins_8 ?_
  refine lv_iconst (v := 1) hx hb dX9_begins_11 (by decide) ?_
  refine lv_iconst (v := 0) hx hb dX9_begins_12 (by decide) ?_
  obtain ⟨M_2, e_M_2, hf⟩ := zv_some hf
  refine va_iast (n := 2) (f := M_1 6) (cA := cI) hx hb hK hP hD hS 5 0 rfl rfl (z_in (by decide)) dX9_begins_13 (fun H locs hP hD hS => ?_)
  have hP : va_P D vwCl (w9 cI cB hM (zs M_1 6 (upd (M_1 6) 1 0))) H := hP
  have hD : va_D A (w9 cI cB hM (zs M_1 6 (upd (M_1 6) 1 0))) := hD
  rw [← e_M_2] at hP hD
  refine lv_aload_n hx hb dX9_begins_14 rfl (lv_at hl 0 rfl) ?_
  refine va_get (D := D) (ci := 9) (v := .ref (hM 7)) (C := RX9) (T := TX9) (N := 23) hx hb hts hi9 hown hK hP 0 rfl rfl 8 (Nat.le_of_ble_eq_true rfl) (hts _ (List.mem_cons_of_mem _ wd_660)) (fun _ h9 => h9) rfl dX9_begins_15 ?_
  refine lv_iconst (v := 1) hx hb dX9_begins_18 (by decide) ?_
  refine lv_iconst (v := 0) hx hb dX9_begins_19 (by decide) ?_
  obtain ⟨M_3, e_M_3, hf⟩ := zv_some hf
  refine va_iast (n := 2) (f := M_2 8) (cA := cI) hx hb hK hP hD hS 7 0 rfl rfl (z_in (by decide)) dX9_begins_20 (fun H locs hP hD hS => ?_)
  have hP : va_P D vwCl (w9 cI cB hM (zs M_2 8 (upd (M_2 8) 1 0))) H := hP
  have hD : va_D A (w9 cI cB hM (zs M_2 8 (upd (M_2 8) 1 0))) := hD
  rw [← e_M_3] at hP hD
  refine lv_aload_n hx hb dX9_begins_21 rfl (lv_at hl 0 rfl) ?_
  refine va_get (D := D) (ci := 9) (v := .ref (hM 2)) (C := RX9) (T := TX9) (N := 23) hx hb hts hi9 hown hK hP 0 rfl rfl 3 (Nat.le_of_ble_eq_true rfl) (hts _ (List.mem_cons_of_mem _ wd_655)) (fun _ h9 => h9) rfl dX9_begins_22 ?_
  refine lv_iconst (v := 3) hx hb dX9_begins_25 (by decide) ?_
  refine lv_iconst (v := 1) hx hb dX9_begins_26 (by decide) ?_
  obtain ⟨M_4, e_M_4, hf⟩ := zv_some hf
  refine va_iast (n := 6) (f := M_3 3) (cA := cI) hx hb hK hP hD hS 2 0 rfl rfl (z_in (by decide)) dX9_begins_27 (fun H locs hP hD hS => ?_)
  have hP : va_P D vwCl (w9 cI cB hM (zs M_3 3 (upd (M_3 3) 3 1))) H := hP
  have hD : va_D A (w9 cI cB hM (zs M_3 3 (upd (M_3 3) 3 1))) := hD
  rw [← e_M_4] at hP hD
  refine lv_aload_n hx hb dX9_begins_28 rfl (lv_at hl 0 rfl) ?_
  refine va_get (D := D) (ci := 9) (v := .ref (hM 2)) (C := RX9) (T := TX9) (N := 23) hx hb hts hi9 hown hK hP 0 rfl rfl 3 (Nat.le_of_ble_eq_true rfl) (hts _ (List.mem_cons_of_mem _ wd_655)) (fun _ h9 => h9) rfl dX9_begins_29 ?_
  refine lv_iconst (v := 4) hx hb dX9_begins_32 (by decide) ?_
  refine lv_iconst (v := 0) hx hb dX9_begins_33 (by decide) ?_
  obtain ⟨M_5, e_M_5, hf⟩ := zv_some hf
  refine va_iast (n := 6) (f := M_4 3) (cA := cI) hx hb hK hP hD hS 2 0 rfl rfl (z_in (by decide)) dX9_begins_34 (fun H locs hP hD hS => ?_)
  have hP : va_P D vwCl (w9 cI cB hM (zs M_4 3 (upd (M_4 3) 4 0))) H := hP
  have hD : va_D A (w9 cI cB hM (zs M_4 3 (upd (M_4 3) 4 0))) := hD
  rw [← e_M_5] at hP hD
  refine lv_aload_n hx hb dX9_begins_35 rfl (lv_at hl 0 rfl) ?_
  refine va_get (D := D) (ci := 9) (v := .ref (hM 2)) (C := RX9) (T := TX9) (N := 23) hx hb hts hi9 hown hK hP 0 rfl rfl 3 (Nat.le_of_ble_eq_true rfl) (hts _ (List.mem_cons_of_mem _ wd_655)) (fun _ h9 => h9) rfl dX9_begins_36 ?_
  refine lv_iconst (v := 5) hx hb dX9_begins_39 (by decide) ?_
  refine lv_sipush (v := 300) hx hb dX9_begins_40 (by decide) ?_
  obtain ⟨M_6, e_M_6, hf⟩ := zv_some hf
  refine va_iast (n := 6) (f := M_5 3) (cA := cI) hx hb hK hP hD hS 2 0 rfl rfl (z_in (by decide)) dX9_begins_43 (fun H locs hP hD hS => ?_)
  have hP : va_P D vwCl (w9 cI cB hM (zs M_5 3 (upd (M_5 3) 5 300))) H := hP
  have hD : va_D A (w9 cI cB hM (zs M_5 3 (upd (M_5 3) 5 300))) := hD
  rw [← e_M_6] at hP hD
  cases hf
  exact zretV hx hb hr hlocks hK hP hD hS dX9_begins_44
def L_X9_takes_38  : Nat → Int32 → zMm → Option (Int32 × zMm)
  | 0, _, _ => none
  | n + 1, l1, M => if (21 : Int32) ≤ l1 then some (l1, M) else zl 42 (M 7) ((21 : Int32) + l1) (fun v5 => zw 42 M 7 l1 v5 (fun M_6 => zb1 (if (20 : Int32) ≤ l1 then some M_6 else zl 40 (M_6 9) ((20 : Int32) + l1) (fun v11 => zw 40 M_6 9 l1 v11 (fun M_12 => some M_12))) (fun (M_8 : zMm) => zb1 (if (6 : Int32) ≤ l1 then some M_8 else zl 12 (M_8 5) ((6 : Int32) + l1) (fun v17 => zw 12 M_8 5 l1 v17 (fun M_18 => some M_18))) (fun (M_14 : zMm) => zb1 (if (3 : Int32) ≤ l1 then some M_14 else zl 6 (M_14 3) ((3 : Int32) + l1) (fun v23 => zw 6 M_14 3 l1 v23 (fun M_24 => some M_24))) (fun (M_20 : zMm) => zv (l1 + 1) (fun (x25 : Int32) => L_X9_takes_38  n x25 M_20))))))
def L_X9_takes_128  : Nat → Int32 → zMm → Option (Int32 × zMm)
  | 0, _, _ => none
  | n + 1, l1, M => if (7 : Int32) ≤ l1 then some (l1, M) else zw 154 M 10 l1 l1 (fun M_30 => zw 154 M_30 10 ((7 : Int32) + l1) 0 (fun M_31 => zv (l1 + 1) (fun (x32 : Int32) => L_X9_takes_128  n x32 M_31)))
def f_X9_takes (M : zMm) : Option (zMm) := zv (zs M 4 (upd (M 4) 0 (M 4 1))) (fun (M_1 : zMm) => zv (zs M_1 6 (upd (M_1 6) 0 (M_1 6 1))) (fun (M_2 : zMm) => zv (zs M_2 8 (upd (M_2 8) 0 (M_2 8 1))) (fun (M_3 : zMm) => zb2 (L_X9_takes_38 100000 0 M_3) (fun (x26 : Int32) (M_27 : zMm) => zb2 (L_X9_takes_128 100000 0 M_27) (fun (x33 : Int32) (M_34 : zMm) => zv (zs M_34 13 (fun _ => 0)) (fun (M_36 : zMm) => zv (zs M_36 15 (fun _ => 0)) (fun (M_37 : zMm) => zv (zs M_37 12 (fun _ => 0)) (fun (M_38 : zMm) => zv (zs M_38 11 (fun _ => 0)) (fun (M_39 : zMm) => some M_39)))))))))
abbrev ww_X9_takes : List Cond := Cond.code yX9_takes cX9_takes 2 none :: wG
theorem q_X9_takes : yX9_takes.cls = RX9 ∧ yX9_takes.cls ≠ "java/lang/invoke/MethodHandle" ∧ yX9_takes.cls ≠ "java/lang/invoke/VarHandle" ∧ (parseMethodDescriptor yX9_takes.desc).map (fun d => d.parameters.length) = some 0 := by decide +kernel
set_option maxHeartbeats 4000000 in
set_option maxRecDepth 100000 in
theorem c_X9_takes (l : Launch) (D : va_G) (cI cB : ClassId) (hM : Nat → Nat) (M : zMm) (M0 : zMm) (hf : f_X9_takes M = some M0) : zMv l yX9_takes ww_X9_takes ({ frames := 0, cells := 0, slots := 0, locals := 0 } : Room) D cI cB [.ref (hM 0)] (w9 cI cB hM M) (w9 cI cB hM M0) := by
  refine zofV (cc := cX9_takes) (maxL := 2) (ret := none) (by decide +kernel) rfl (Nat.le_of_ble_eq_true rfl) ?_
  intro p e s m below meth c A ls hx hb hml hr hown hts hlocks hK hP hD hS hA hl
  have hl : lv_has ls 2 [(0, .ref (hM 0))] := hl
  have hown : s.vm.findClass RX9 = some m.cls := hown
  have hG : ∀ w ∈ wG, w ∈ ww_X9_takes := fun w h => List.mem_cons_of_mem _ h
  have hi9 : ∀ w ∈ wsX90, w ∈ ww_X9_takes := fun w h => List.mem_cons_of_mem _ (z_inX9 w h)
  have L128 : ∀  (n : Nat) (l1 : Int32) (M : zMm) (o1 : Int32) (oM : zMm), L_X9_takes_128  n l1 M = some (o1, oM) → zAt p l e ({ frames := 0, cells := 0, slots := 0, locals := 0 } : Room) s m [.ref (hM 0)].toArray below meth c (MQ below (zQv D cI cB (w9 cI cB hM M0) A) [.ref (hM 0)].toArray s 0 0 A) A D 2 (w9 cI cB hM oM) [(0, .ref (hM 0)), (1, .int o1)] 157 [] → zAt p l e ({ frames := 0, cells := 0, slots := 0, locals := 0 } : Room) s m [.ref (hM 0)].toArray below meth c (MQ below (zQv D cI cB (w9 cI cB hM M0) A) [.ref (hM 0)].toArray s 0 0 A) A D 2 (w9 cI cB hM M) [(0, .ref (hM 0)), (1, .int l1)] 128 [] := by
    intro n
    induction n with
    | zero => intro l1 M o1 oM hf; simp [L_X9_takes_128] at hf
    | succ n ih =>
      intro l1 M o1 oM hf hk H locs ls hP hD hS hl
      rw [L_X9_takes_128] at hf
      refine lv_iload_n hx hb dX9_takes_128 rfl (lv_at hl 1 rfl) ?_
      refine lv_bipush (v := 7) hx hb dX9_takes_129 (by decide) ?_
      refine lv_icmp_ge (tgt := 157) hx hb dX9_takes_131 (by decide) (fun c_29 => ?_) (fun c_29 => ?_)
      · replace hf := zit c_29 hf
        cases hf
        exact hk _ _ _ hP hD hS (lv_sub hl [0, 1] rfl)
      · replace hf := zif c_29 hf
        refine lv_aload_n hx hb dX9_takes_134 rfl (lv_at hl 0 rfl) ?_
        refine va_get (D := D) (ci := 9) (v := .ref (hM 9)) (C := RX9) (T := TX9) (N := 23) hx hb hts hi9 hown hK hP 0 rfl rfl 10 (Nat.le_of_ble_eq_true rfl) (hts _ (List.mem_cons_of_mem _ wd_662)) (fun _ h9 => h9) rfl dX9_takes_135 ?_
        refine lv_iload_n hx hb dX9_takes_138 rfl (lv_at hl 1 rfl) ?_
        refine lv_iload_n hx hb dX9_takes_139 rfl (lv_at hl 1 rfl) ?_
        obtain ⟨i_M_30, M_30, e_M_30, hf⟩ := zw_some hf
        refine va_iast (n := 154) (f := M 10) (cA := cI) hx hb hK hP hD hS 9 0 rfl rfl i_M_30 dX9_takes_140 (fun H locs hP hD hS => ?_)
        have hP : va_P D vwCl (w9 cI cB hM (zs M 10 (upd (M 10) l1.toNatClampNeg l1))) H := hP
        have hD : va_D A (w9 cI cB hM (zs M 10 (upd (M 10) l1.toNatClampNeg l1))) := hD
        rw [← e_M_30] at hP hD
        refine lv_aload_n hx hb dX9_takes_141 rfl (lv_at hl 0 rfl) ?_
        refine va_get (D := D) (ci := 9) (v := .ref (hM 9)) (C := RX9) (T := TX9) (N := 23) hx hb hts hi9 hown hK hP 0 rfl rfl 10 (Nat.le_of_ble_eq_true rfl) (hts _ (List.mem_cons_of_mem _ wd_662)) (fun _ h9 => h9) rfl dX9_takes_142 ?_
        refine lv_bipush (v := 7) hx hb dX9_takes_145 (by decide) ?_
        refine lv_iload_n hx hb dX9_takes_147 rfl (lv_at hl 1 rfl) ?_
        refine lv_iadd hx hb dX9_takes_148 ?_
        refine lv_iconst (v := 0) hx hb dX9_takes_149 (by decide) ?_
        obtain ⟨i_M_31, M_31, e_M_31, hf⟩ := zw_some hf
        refine va_iast (n := 154) (f := M_30 10) (cA := cI) hx hb hK hP hD hS 9 0 rfl rfl i_M_31 dX9_takes_150 (fun H locs hP hD hS => ?_)
        have hP : va_P D vwCl (w9 cI cB hM (zs M_30 10 (upd (M_30 10) ((7 : Int32) + l1).toNatClampNeg 0))) H := hP
        have hD : va_D A (w9 cI cB hM (zs M_30 10 (upd (M_30 10) ((7 : Int32) + l1).toNatClampNeg 0))) := hD
        rw [← e_M_31] at hP hD
        obtain ⟨x32, e_x32, hf⟩ := zv_some hf
        refine lv_iinc (v := x32) (lv' := [(1, .int x32), (0, .ref (hM 0))]) hx hb dX9_takes_151 hl (k := 1) rfl (by rw [e_x32]; rfl) (by decide) rfl (fun ls hl => ?_)
        refine lv_goto (tgt := 128) hx hb dX9_takes_154 (by decide) ?_
        exact ih _ _ _ _ hf hk _ _ _ hP hD hS (lv_sub hl [1, 0] rfl)
  have L38 : ∀  (n : Nat) (l1 : Int32) (M : zMm) (o1 : Int32) (oM : zMm), L_X9_takes_38  n l1 M = some (o1, oM) → zAt p l e ({ frames := 0, cells := 0, slots := 0, locals := 0 } : Room) s m [.ref (hM 0)].toArray below meth c (MQ below (zQv D cI cB (w9 cI cB hM M0) A) [.ref (hM 0)].toArray s 0 0 A) A D 2 (w9 cI cB hM oM) [(0, .ref (hM 0)), (1, .int o1)] 126 [] → zAt p l e ({ frames := 0, cells := 0, slots := 0, locals := 0 } : Room) s m [.ref (hM 0)].toArray below meth c (MQ below (zQv D cI cB (w9 cI cB hM M0) A) [.ref (hM 0)].toArray s 0 0 A) A D 2 (w9 cI cB hM M) [(0, .ref (hM 0)), (1, .int l1)] 38 [] := by
    intro n
    induction n with
    | zero => intro l1 M o1 oM hf; simp [L_X9_takes_38] at hf
    | succ n ih =>
      intro l1 M o1 oM hf hk H locs ls hP hD hS hl
      rw [L_X9_takes_38] at hf
      refine lv_iload_n hx hb dX9_takes_38 rfl (lv_at hl 1 rfl) ?_
      refine lv_bipush (v := 21) hx hb dX9_takes_39 (by decide) ?_
      refine lv_icmp_ge (tgt := 126) hx hb dX9_takes_41 (by decide) (fun c_4 => ?_) (fun c_4 => ?_)
      · replace hf := zit c_4 hf
        cases hf
        exact hk _ _ _ hP hD hS (lv_sub hl [0, 1] rfl)
      · replace hf := zif c_4 hf
        refine lv_aload_n hx hb dX9_takes_44 rfl (lv_at hl 0 rfl) ?_
        refine va_get (D := D) (ci := 9) (v := .ref (hM 6)) (C := RX9) (T := TX9) (N := 23) hx hb hts hi9 hown hK hP 0 rfl rfl 7 (Nat.le_of_ble_eq_true rfl) (hts _ (List.mem_cons_of_mem _ wd_659)) (fun _ h9 => h9) rfl dX9_takes_45 ?_
        refine lv_iload_n hx hb dX9_takes_48 rfl (lv_at hl 1 rfl) ?_
        refine lv_aload_n hx hb dX9_takes_49 rfl (lv_at hl 0 rfl) ?_
        refine va_get (D := D) (ci := 9) (v := .ref (hM 6)) (C := RX9) (T := TX9) (N := 23) hx hb hts hi9 hown hK hP 0 rfl rfl 7 (Nat.le_of_ble_eq_true rfl) (hts _ (List.mem_cons_of_mem _ wd_659)) (fun _ h9 => h9) rfl dX9_takes_50 ?_
        refine lv_bipush (v := 21) hx hb dX9_takes_53 (by decide) ?_
        refine lv_iload_n hx hb dX9_takes_55 rfl (lv_at hl 1 rfl) ?_
        refine lv_iadd hx hb dX9_takes_56 ?_
        obtain ⟨i_v5, v5, e_v5, hf⟩ := zl_some hf
        refine va_iald (n := 42) (f := M 7) (cA := cI) hx hb hK hP 6 0 rfl rfl i_v5 dX9_takes_57 ?_
        refine zt e_v5 ?_
        obtain ⟨i_M_6, M_6, e_M_6, hf⟩ := zw_some hf
        refine va_iast (n := 42) (f := M 7) (cA := cI) hx hb hK hP hD hS 6 0 rfl rfl i_M_6 dX9_takes_58 (fun H locs hP hD hS => ?_)
        have hP : va_P D vwCl (w9 cI cB hM (zs M 7 (upd (M 7) l1.toNatClampNeg v5))) H := hP
        have hD : va_D A (w9 cI cB hM (zs M 7 (upd (M 7) l1.toNatClampNeg v5))) := hD
        rw [← e_M_6] at hP hD
        refine lv_iload_n hx hb dX9_takes_59 rfl (lv_at hl 1 rfl) ?_
        refine lv_bipush (v := 20) hx hb dX9_takes_60 (by decide) ?_
        obtain ⟨M_8, hq9, hf⟩ := zb1_some hf
        have J10 : zAt p l e ({ frames := 0, cells := 0, slots := 0, locals := 0 } : Room) s m [.ref (hM 0)].toArray below meth c (MQ below (zQv D cI cB (w9 cI cB hM M0) A) [.ref (hM 0)].toArray s 0 0 A) A D 2 (w9 cI cB hM M_8) [(0, .ref (hM 0)), (1, .int l1)] 80 [] := by
          intro H locs ls hP hD hS hl
          refine lv_iload_n hx hb dX9_takes_80 rfl (lv_at hl 1 rfl) ?_
          refine lv_bipush (v := 6) hx hb dX9_takes_81 (by decide) ?_
          obtain ⟨M_14, hq15, hf⟩ := zb1_some hf
          have J16 : zAt p l e ({ frames := 0, cells := 0, slots := 0, locals := 0 } : Room) s m [.ref (hM 0)].toArray below meth c (MQ below (zQv D cI cB (w9 cI cB hM M0) A) [.ref (hM 0)].toArray s 0 0 A) A D 2 (w9 cI cB hM M_14) [(0, .ref (hM 0)), (1, .int l1)] 101 [] := by
            intro H locs ls hP hD hS hl
            refine lv_iload_n hx hb dX9_takes_101 rfl (lv_at hl 1 rfl) ?_
            refine lv_iconst (v := 3) hx hb dX9_takes_102 (by decide) ?_
            obtain ⟨M_20, hq21, hf⟩ := zb1_some hf
            have J22 : zAt p l e ({ frames := 0, cells := 0, slots := 0, locals := 0 } : Room) s m [.ref (hM 0)].toArray below meth c (MQ below (zQv D cI cB (w9 cI cB hM M0) A) [.ref (hM 0)].toArray s 0 0 A) A D 2 (w9 cI cB hM M_20) [(0, .ref (hM 0)), (1, .int l1)] 120 [] := by
              intro H locs ls hP hD hS hl
              obtain ⟨x25, e_x25, hf⟩ := zv_some hf
              refine lv_iinc (v := x25) (lv' := [(1, .int x25), (0, .ref (hM 0))]) hx hb dX9_takes_120 hl (k := 1) rfl (by rw [e_x25]; rfl) (by decide) rfl (fun ls hl => ?_)
              refine lv_goto (tgt := 38) hx hb dX9_takes_123 (by decide) ?_
              exact ih _ _ _ _ hf hk _ _ _ hP hD hS (lv_sub hl [1, 0] rfl)
            replace hf := hq21
            refine lv_icmp_ge (tgt := 120) hx hb dX9_takes_103 (by decide) (fun c_19 => ?_) (fun c_19 => ?_)
            · replace hf := zit c_19 hf
              cases hf
              exact J22 _ _ _ hP hD hS (lv_sub hl [0, 1] rfl)
            · replace hf := zif c_19 hf
              refine lv_aload_n hx hb dX9_takes_106 rfl (lv_at hl 0 rfl) ?_
              refine va_get (D := D) (ci := 9) (v := .ref (hM 2)) (C := RX9) (T := TX9) (N := 23) hx hb hts hi9 hown hK hP 0 rfl rfl 3 (Nat.le_of_ble_eq_true rfl) (hts _ (List.mem_cons_of_mem _ wd_655)) (fun _ h9 => h9) rfl dX9_takes_107 ?_
              refine lv_iload_n hx hb dX9_takes_110 rfl (lv_at hl 1 rfl) ?_
              refine lv_aload_n hx hb dX9_takes_111 rfl (lv_at hl 0 rfl) ?_
              refine va_get (D := D) (ci := 9) (v := .ref (hM 2)) (C := RX9) (T := TX9) (N := 23) hx hb hts hi9 hown hK hP 0 rfl rfl 3 (Nat.le_of_ble_eq_true rfl) (hts _ (List.mem_cons_of_mem _ wd_655)) (fun _ h9 => h9) rfl dX9_takes_112 ?_
              refine lv_iconst (v := 3) hx hb dX9_takes_115 (by decide) ?_
              refine lv_iload_n hx hb dX9_takes_116 rfl (lv_at hl 1 rfl) ?_
              refine lv_iadd hx hb dX9_takes_117 ?_
              obtain ⟨i_v23, v23, e_v23, hf⟩ := zl_some hf
              refine va_iald (n := 6) (f := M_14 3) (cA := cI) hx hb hK hP 2 0 rfl rfl i_v23 dX9_takes_118 ?_
              refine zt e_v23 ?_
              obtain ⟨i_M_24, M_24, e_M_24, hf⟩ := zw_some hf
              refine va_iast (n := 6) (f := M_14 3) (cA := cI) hx hb hK hP hD hS 2 0 rfl rfl i_M_24 dX9_takes_119 (fun H locs hP hD hS => ?_)
              have hP : va_P D vwCl (w9 cI cB hM (zs M_14 3 (upd (M_14 3) l1.toNatClampNeg v23))) H := hP
              have hD : va_D A (w9 cI cB hM (zs M_14 3 (upd (M_14 3) l1.toNatClampNeg v23))) := hD
              rw [← e_M_24] at hP hD
              cases hf
              exact J22 _ _ _ hP hD hS (lv_sub hl [0, 1] rfl)
          replace hf := hq15
          refine lv_icmp_ge (tgt := 101) hx hb dX9_takes_83 (by decide) (fun c_13 => ?_) (fun c_13 => ?_)
          · replace hf := zit c_13 hf
            cases hf
            exact J16 _ _ _ hP hD hS (lv_sub hl [0, 1] rfl)
          · replace hf := zif c_13 hf
            refine lv_aload_n hx hb dX9_takes_86 rfl (lv_at hl 0 rfl) ?_
            refine va_get (D := D) (ci := 9) (v := .ref (hM 4)) (C := RX9) (T := TX9) (N := 23) hx hb hts hi9 hown hK hP 0 rfl rfl 5 (Nat.le_of_ble_eq_true rfl) (hts _ (List.mem_cons_of_mem _ wd_657)) (fun _ h9 => h9) rfl dX9_takes_87 ?_
            refine lv_iload_n hx hb dX9_takes_90 rfl (lv_at hl 1 rfl) ?_
            refine lv_aload_n hx hb dX9_takes_91 rfl (lv_at hl 0 rfl) ?_
            refine va_get (D := D) (ci := 9) (v := .ref (hM 4)) (C := RX9) (T := TX9) (N := 23) hx hb hts hi9 hown hK hP 0 rfl rfl 5 (Nat.le_of_ble_eq_true rfl) (hts _ (List.mem_cons_of_mem _ wd_657)) (fun _ h9 => h9) rfl dX9_takes_92 ?_
            refine lv_bipush (v := 6) hx hb dX9_takes_95 (by decide) ?_
            refine lv_iload_n hx hb dX9_takes_97 rfl (lv_at hl 1 rfl) ?_
            refine lv_iadd hx hb dX9_takes_98 ?_
            obtain ⟨i_v17, v17, e_v17, hf⟩ := zl_some hf
            refine va_iald (n := 12) (f := M_8 5) (cA := cI) hx hb hK hP 4 0 rfl rfl i_v17 dX9_takes_99 ?_
            refine zt e_v17 ?_
            obtain ⟨i_M_18, M_18, e_M_18, hf⟩ := zw_some hf
            refine va_iast (n := 12) (f := M_8 5) (cA := cI) hx hb hK hP hD hS 4 0 rfl rfl i_M_18 dX9_takes_100 (fun H locs hP hD hS => ?_)
            have hP : va_P D vwCl (w9 cI cB hM (zs M_8 5 (upd (M_8 5) l1.toNatClampNeg v17))) H := hP
            have hD : va_D A (w9 cI cB hM (zs M_8 5 (upd (M_8 5) l1.toNatClampNeg v17))) := hD
            rw [← e_M_18] at hP hD
            cases hf
            exact J16 _ _ _ hP hD hS (lv_sub hl [0, 1] rfl)
        replace hf := hq9
        refine lv_icmp_ge (tgt := 80) hx hb dX9_takes_62 (by decide) (fun c_7 => ?_) (fun c_7 => ?_)
        · replace hf := zit c_7 hf
          cases hf
          exact J10 _ _ _ hP hD hS (lv_sub hl [0, 1] rfl)
        · replace hf := zif c_7 hf
          refine lv_aload_n hx hb dX9_takes_65 rfl (lv_at hl 0 rfl) ?_
          refine va_get (D := D) (ci := 9) (v := .ref (hM 8)) (C := RX9) (T := TX9) (N := 23) hx hb hts hi9 hown hK hP 0 rfl rfl 9 (Nat.le_of_ble_eq_true rfl) (hts _ (List.mem_cons_of_mem _ wd_661)) (fun _ h9 => h9) rfl dX9_takes_66 ?_
          refine lv_iload_n hx hb dX9_takes_69 rfl (lv_at hl 1 rfl) ?_
          refine lv_aload_n hx hb dX9_takes_70 rfl (lv_at hl 0 rfl) ?_
          refine va_get (D := D) (ci := 9) (v := .ref (hM 8)) (C := RX9) (T := TX9) (N := 23) hx hb hts hi9 hown hK hP 0 rfl rfl 9 (Nat.le_of_ble_eq_true rfl) (hts _ (List.mem_cons_of_mem _ wd_661)) (fun _ h9 => h9) rfl dX9_takes_71 ?_
          refine lv_bipush (v := 20) hx hb dX9_takes_74 (by decide) ?_
          refine lv_iload_n hx hb dX9_takes_76 rfl (lv_at hl 1 rfl) ?_
          refine lv_iadd hx hb dX9_takes_77 ?_
          obtain ⟨i_v11, v11, e_v11, hf⟩ := zl_some hf
          refine va_iald (n := 40) (f := M_6 9) (cA := cI) hx hb hK hP 8 0 rfl rfl i_v11 dX9_takes_78 ?_
          refine zt e_v11 ?_
          obtain ⟨i_M_12, M_12, e_M_12, hf⟩ := zw_some hf
          refine va_iast (n := 40) (f := M_6 9) (cA := cI) hx hb hK hP hD hS 8 0 rfl rfl i_M_12 dX9_takes_79 (fun H locs hP hD hS => ?_)
          have hP : va_P D vwCl (w9 cI cB hM (zs M_6 9 (upd (M_6 9) l1.toNatClampNeg v11))) H := hP
          have hD : va_D A (w9 cI cB hM (zs M_6 9 (upd (M_6 9) l1.toNatClampNeg v11))) := hD
          rw [← e_M_12] at hP hD
          cases hf
          exact J10 _ _ _ hP hD hS (lv_sub hl [0, 1] rfl)
  unfold f_X9_takes at hf
  refine lv_aload_n hx hb dX9_takes_0 rfl (lv_at hl 0 rfl) ?_
  refine va_get (D := D) (ci := 9) (v := .ref (hM 3)) (C := RX9) (T := TX9) (N := 23) hx hb hts hi9 hown hK hP 0 rfl rfl 4 (Nat.le_of_ble_eq_true rfl) (hts _ (List.mem_cons_of_mem _ wd_656)) (fun _ h9 => h9) rfl dX9_takes_1 ?_
  refine lv_iconst (v := 0) hx hb dX9_takes_4 (by decide) ?_
  refine lv_aload_n hx hb dX9_takes_5 rfl (lv_at hl 0 rfl) ?_
  refine va_get (D := D) (ci := 9) (v := .ref (hM 3)) (C := RX9) (T := TX9) (N := 23) hx hb hts hi9 hown hK hP 0 rfl rfl 4 (Nat.le_of_ble_eq_true rfl) (hts _ (List.mem_cons_of_mem _ wd_656)) (fun _ h9 => h9) rfl dX9_takes_6 ?_
  refine lv_iconst (v := 1) hx hb dX9_takes_9 (by decide) ?_
  refine va_iald (n := 2) (f := M 4) (cA := cI) hx hb hK hP 3 0 rfl rfl (z_in (by decide)) dX9_takes_10 ?_
  refine z_tc (k := 1) (by decide) ?_
  obtain ⟨M_1, e_M_1, hf⟩ := zv_some hf
  refine va_iast (n := 2) (f := M 4) (cA := cI) hx hb hK hP hD hS 3 0 rfl rfl (z_in (by decide)) dX9_takes_11 (fun H locs hP hD hS => ?_)
  have hP : va_P D vwCl (w9 cI cB hM (zs M 4 (upd (M 4) 0 (M 4 1)))) H := hP
  have hD : va_D A (w9 cI cB hM (zs M 4 (upd (M 4) 0 (M 4 1)))) := hD
  rw [← e_M_1] at hP hD
  refine lv_aload_n hx hb dX9_takes_12 rfl (lv_at hl 0 rfl) ?_
  refine va_get (D := D) (ci := 9) (v := .ref (hM 5)) (C := RX9) (T := TX9) (N := 23) hx hb hts hi9 hown hK hP 0 rfl rfl 6 (Nat.le_of_ble_eq_true rfl) (hts _ (List.mem_cons_of_mem _ wd_658)) (fun _ h9 => h9) rfl dX9_takes_13 ?_
  refine lv_iconst (v := 0) hx hb dX9_takes_16 (by decide) ?_
  refine lv_aload_n hx hb dX9_takes_17 rfl (lv_at hl 0 rfl) ?_
  refine va_get (D := D) (ci := 9) (v := .ref (hM 5)) (C := RX9) (T := TX9) (N := 23) hx hb hts hi9 hown hK hP 0 rfl rfl 6 (Nat.le_of_ble_eq_true rfl) (hts _ (List.mem_cons_of_mem _ wd_658)) (fun _ h9 => h9) rfl dX9_takes_18 ?_
  refine lv_iconst (v := 1) hx hb dX9_takes_21 (by decide) ?_
  refine va_iald (n := 2) (f := M_1 6) (cA := cI) hx hb hK hP 5 0 rfl rfl (z_in (by decide)) dX9_takes_22 ?_
  refine z_tc (k := 1) (by decide) ?_
  obtain ⟨M_2, e_M_2, hf⟩ := zv_some hf
  refine va_iast (n := 2) (f := M_1 6) (cA := cI) hx hb hK hP hD hS 5 0 rfl rfl (z_in (by decide)) dX9_takes_23 (fun H locs hP hD hS => ?_)
  have hP : va_P D vwCl (w9 cI cB hM (zs M_1 6 (upd (M_1 6) 0 (M_1 6 1)))) H := hP
  have hD : va_D A (w9 cI cB hM (zs M_1 6 (upd (M_1 6) 0 (M_1 6 1)))) := hD
  rw [← e_M_2] at hP hD
  refine lv_aload_n hx hb dX9_takes_24 rfl (lv_at hl 0 rfl) ?_
  refine va_get (D := D) (ci := 9) (v := .ref (hM 7)) (C := RX9) (T := TX9) (N := 23) hx hb hts hi9 hown hK hP 0 rfl rfl 8 (Nat.le_of_ble_eq_true rfl) (hts _ (List.mem_cons_of_mem _ wd_660)) (fun _ h9 => h9) rfl dX9_takes_25 ?_
  refine lv_iconst (v := 0) hx hb dX9_takes_28 (by decide) ?_
  refine lv_aload_n hx hb dX9_takes_29 rfl (lv_at hl 0 rfl) ?_
  refine va_get (D := D) (ci := 9) (v := .ref (hM 7)) (C := RX9) (T := TX9) (N := 23) hx hb hts hi9 hown hK hP 0 rfl rfl 8 (Nat.le_of_ble_eq_true rfl) (hts _ (List.mem_cons_of_mem _ wd_660)) (fun _ h9 => h9) rfl dX9_takes_30 ?_
  refine lv_iconst (v := 1) hx hb dX9_takes_33 (by decide) ?_
  refine va_iald (n := 2) (f := M_2 8) (cA := cI) hx hb hK hP 7 0 rfl rfl (z_in (by decide)) dX9_takes_34 ?_
  refine z_tc (k := 1) (by decide) ?_
  obtain ⟨M_3, e_M_3, hf⟩ := zv_some hf
  refine va_iast (n := 2) (f := M_2 8) (cA := cI) hx hb hK hP hD hS 7 0 rfl rfl (z_in (by decide)) dX9_takes_35 (fun H locs hP hD hS => ?_)
  have hP : va_P D vwCl (w9 cI cB hM (zs M_2 8 (upd (M_2 8) 0 (M_2 8 1)))) H := hP
  have hD : va_D A (w9 cI cB hM (zs M_2 8 (upd (M_2 8) 0 (M_2 8 1)))) := hD
  rw [← e_M_3] at hP hD
  refine lv_iconst (v := 0) hx hb dX9_takes_36 (by decide) ?_
  refine lv_istore_n (lv' := [(1, .int 0), (0, .ref (hM 0))]) hx hb dX9_takes_37 rfl hl (by decide) rfl (fun ls hl => ?_)
  obtain ⟨x26, M_27, hq28, hf⟩ := zb2_some hf
  refine L38 _ _ _ _ _ hq28 ?_ _ _ _ hP hD hS (lv_sub hl [1, 0] rfl)
  intro H locs ls hP hD hS hl
  refine lv_iconst (v := 0) hx hb dX9_takes_126 (by decide) ?_
  refine lv_istore_n (lv' := [(1, .int 0), (0, .ref (hM 0))]) hx hb dX9_takes_127 rfl hl (by decide) rfl (fun ls hl => ?_)
  obtain ⟨x33, M_34, hq35, hf⟩ := zb2_some hf
  refine L128 _ _ _ _ _ hq35 ?_ _ _ _ hP hD hS (lv_sub hl [1, 0] rfl)
  intro H locs ls hP hD hS hl
  refine lv_aload_n hx hb dX9_takes_157 rfl (lv_at hl 0 rfl) ?_
  refine lv_iconst (v := 0) hx hb dX9_takes_158 (by decide) ?_
  obtain ⟨M_36, e_M_36, hf⟩ := zv_some hf
  refine va_put (D := D) (ci := 9) (v := .int 0) (ty := .int) (C := RX9) (T := TX9) (N := 23) hx hb hts hi9 tyX9 tyX9_ok nmX9 hown hK hP hD hS 0 rfl rfl 13 (Nat.le_of_ble_eq_true rfl) (hts _ (List.mem_cons_of_mem _ wd_665)) (fun _ h9 => h9) rfl (by decide +kernel) rfl rfl (Nat.le_of_ble_eq_true rfl) dX9_takes_159 (fun H locs hP hD hS => ?_)
  have hP : va_P D vwCl (w9 cI cB hM (zs M_34 13 (fun _ => 0))) H := hP
  have hD : va_D A (w9 cI cB hM (zs M_34 13 (fun _ => 0))) := hD
  rw [← e_M_36] at hP hD
  refine lv_aload_n hx hb dX9_takes_162 rfl (lv_at hl 0 rfl) ?_
  refine lv_iconst (v := 0) hx hb dX9_takes_163 (by decide) ?_
  obtain ⟨M_37, e_M_37, hf⟩ := zv_some hf
  refine va_put (D := D) (ci := 9) (v := .int 0) (ty := .int) (C := RX9) (T := TX9) (N := 23) hx hb hts hi9 tyX9 tyX9_ok nmX9 hown hK hP hD hS 0 rfl rfl 15 (Nat.le_of_ble_eq_true rfl) (hts _ (List.mem_cons_of_mem _ wd_667)) (fun _ h9 => h9) rfl (by decide +kernel) rfl rfl (Nat.le_of_ble_eq_true rfl) dX9_takes_164 (fun H locs hP hD hS => ?_)
  have hP : va_P D vwCl (w9 cI cB hM (zs M_36 15 (fun _ => 0))) H := hP
  have hD : va_D A (w9 cI cB hM (zs M_36 15 (fun _ => 0))) := hD
  rw [← e_M_37] at hP hD
  refine lv_aload_n hx hb dX9_takes_167 rfl (lv_at hl 0 rfl) ?_
  refine lv_iconst (v := 0) hx hb dX9_takes_168 (by decide) ?_
  obtain ⟨M_38, e_M_38, hf⟩ := zv_some hf
  refine va_put (D := D) (ci := 9) (v := .int 0) (ty := .int) (C := RX9) (T := TX9) (N := 23) hx hb hts hi9 tyX9 tyX9_ok nmX9 hown hK hP hD hS 0 rfl rfl 12 (Nat.le_of_ble_eq_true rfl) (hts _ (List.mem_cons_of_mem _ wd_664)) (fun _ h9 => h9) rfl (by decide +kernel) rfl rfl (Nat.le_of_ble_eq_true rfl) dX9_takes_169 (fun H locs hP hD hS => ?_)
  have hP : va_P D vwCl (w9 cI cB hM (zs M_37 12 (fun _ => 0))) H := hP
  have hD : va_D A (w9 cI cB hM (zs M_37 12 (fun _ => 0))) := hD
  rw [← e_M_38] at hP hD
  refine lv_aload_n hx hb dX9_takes_172 rfl (lv_at hl 0 rfl) ?_
  refine lv_iconst (v := 0) hx hb dX9_takes_173 (by decide) ?_
  obtain ⟨M_39, e_M_39, hf⟩ := zv_some hf
  refine va_put (D := D) (ci := 9) (v := .int 0) (ty := .int) (C := RX9) (T := TX9) (N := 23) hx hb hts hi9 tyX9 tyX9_ok nmX9 hown hK hP hD hS 0 rfl rfl 11 (Nat.le_of_ble_eq_true rfl) (hts _ (List.mem_cons_of_mem _ wd_663)) (fun _ h9 => h9) rfl (by decide +kernel) rfl rfl (Nat.le_of_ble_eq_true rfl) dX9_takes_174 (fun H locs hP hD hS => ?_)
  have hP : va_P D vwCl (w9 cI cB hM (zs M_38 11 (fun _ => 0))) H := hP
  have hD : va_D A (w9 cI cB hM (zs M_38 11 (fun _ => 0))) := hD
  rw [← e_M_39] at hP hD
  cases hf
  exact zretV hx hb hr hlocks hK hP hD hS dX9_takes_177
def L_X9_fault_9  : Nat → zMm → Option (Int32 × zMm)
  | 0, _ => none
  | n + 1, M => if (M 0 0) ≤ (M 2 0) then some (((-4) : Int32), M) else zv (M 2 0) (fun (x5 : Int32) => zb2 (f_X9_isItem M) (fun (r6 : Int32) (M_7 : zMm) => if r6 = 0 then some (x5, M_7) else L_X9_fault_9  n M_7))
def f_X9_fault (M : zMm) : Option (Int32 × zMm) := zv (zs M 2 (fun _ => 0)) (fun (M_1 : zMm) => zb1 (f_X9_begins M_1) (fun (M_2 : zMm) => L_X9_fault_9 100000 M_2))
abbrev ww_X9_fault : List Cond := Cond.code yX9_fault cX9_fault 2 (some .int) :: wG
theorem q_X9_fault : yX9_fault.cls = RX9 ∧ yX9_fault.cls ≠ "java/lang/invoke/MethodHandle" ∧ yX9_fault.cls ≠ "java/lang/invoke/VarHandle" ∧ (parseMethodDescriptor yX9_fault.desc).map (fun d => d.parameters.length) = some 0 := by decide +kernel
set_option maxHeartbeats 4000000 in
set_option maxRecDepth 100000 in
theorem c_X9_fault (l : Launch) (D : va_G) (cI cB : ClassId) (hM : Nat → Nat) (M : zMm) (r0 : Int32) (M0 : zMm) (hf : f_X9_fault M = some (r0, M0)) : zMi l yX9_fault ww_X9_fault ({ frames := 3, cells := 0, slots := 0, locals := 72 } : Room) D cI cB [.ref (hM 0)] (w9 cI cB hM M) r0 (w9 cI cB hM M0) := by
  refine zofI (cc := cX9_fault) (maxL := 2) (ret := (some .int)) (by decide +kernel) rfl (Nat.le_of_ble_eq_true rfl) ?_
  intro p e s m below meth c A ls hx hb hml hr hown hts hlocks hK hP hD hS hA hl
  have hl : lv_has ls 2 [(0, .ref (hM 0))] := hl
  have hown : s.vm.findClass RX9 = some m.cls := hown
  have hG : ∀ w ∈ wG, w ∈ ww_X9_fault := fun w h => List.mem_cons_of_mem _ h
  have hi9 : ∀ w ∈ wsX90, w ∈ ww_X9_fault := fun w h => List.mem_cons_of_mem _ (z_inX9 w h)
  have L9 : ∀  (n : Nat) (M : zMm), L_X9_fault_9  n M = some (r0, M0) → zAt p l e ({ frames := 3, cells := 0, slots := 0, locals := 72 } : Room) s m [.ref (hM 0)].toArray below meth c (MQ below (zQi D cI cB r0 (w9 cI cB hM M0) A) [.ref (hM 0)].toArray s 0 0 A) A D 2 (w9 cI cB hM M) [(0, .ref (hM 0))] 9 [] := by
    intro n
    induction n with
    | zero => intro M hf; simp [L_X9_fault_9] at hf
    | succ n ih =>
      intro M hf H locs ls hP hD hS hl
      rw [L_X9_fault_9] at hf
      refine lv_aload_n hx hb dX9_fault_9 rfl (lv_at hl 0 rfl) ?_
      refine va_get (D := D) (ci := 9) (v := .int (M 2 0)) (C := RX9) (T := TX9) (N := 23) hx hb hts hi9 hown hK hP 0 rfl rfl 2 (Nat.le_of_ble_eq_true rfl) (hts _ (List.mem_cons_of_mem _ wd_654)) (fun _ h9 => h9) rfl dX9_fault_10 ?_
      refine lv_aload_n hx hb dX9_fault_13 rfl (lv_at hl 0 rfl) ?_
      refine va_get (D := D) (ci := 9) (v := .int (M 0 0)) (C := RX9) (T := TX9) (N := 23) hx hb hts hi9 hown hK hP 0 rfl rfl 0 (Nat.le_of_ble_eq_true rfl) (hts _ (List.mem_cons_of_mem _ wd_652)) (fun _ h9 => h9) rfl dX9_fault_14 ?_
      refine lv_icmp_ge (tgt := 37) hx hb dX9_fault_17 (by decide) (fun c_4 => ?_) (fun c_4 => ?_)
      · replace hf := zit c_4 hf
        refine lv_bipush (v := (-4)) hx hb dX9_fault_37 (by decide) ?_
        cases hf
        exact zretI hx hb hr hlocks hK hP hD hS dX9_fault_39
      · replace hf := zif c_4 hf
        refine lv_aload_n hx hb dX9_fault_20 rfl (lv_at hl 0 rfl) ?_
        refine va_get (D := D) (ci := 9) (v := .int (M 2 0)) (C := RX9) (T := TX9) (N := 23) hx hb hts hi9 hown hK hP 0 rfl rfl 2 (Nat.le_of_ble_eq_true rfl) (hts _ (List.mem_cons_of_mem _ wd_654)) (fun _ h9 => h9) rfl dX9_fault_21 ?_
        obtain ⟨x5, e_x5, hf⟩ := zv_some hf
        refine zt e_x5 ?_
        refine lv_istore_n (lv' := [(1, .int x5), (0, .ref (hM 0))]) hx hb dX9_fault_24 rfl hl (by decide) rfl (fun ls hl => ?_)
        refine lv_aload_n hx hb dX9_fault_25 rfl (lv_at hl 1 rfl) ?_
        obtain ⟨r6, M_7, hq8, hf⟩ := zb2_some hf
        refine zcallVi (ws2 := (w9 cI cB hM M_7)) (rest := []) ⟨hx, hb, hml, hown, hts⟩ (c_X9_isItem l D cI cB hM M r6 M_7 hq8) (cwV 0 hts (z_gV hG wd_738 wd_740 wd_s23 wd_15 wd_741) rfl rfl rfl q_X9_isItem ⟨Nat.le_of_ble_eq_true rfl, Nat.le_of_ble_eq_true rfl⟩) hK hP hD hS hA 9 rfl rfl rfl [0, 1, 2, 3, 4, 5, 6, 7, 8, 9, 10, 11, 12, 13, 14, 15, 16, 17] [] rfl rfl rfl rfl rfl rfl rfl hl.1 (Nat.le_of_ble_eq_true rfl) dX9_fault_26 ⟨Nat.zero_le _, Nat.zero_le _⟩ rfl (fun H locs hP hD hS => ?_)
        refine lv_if_ne (tgt := 34) hx hb dX9_fault_29 (by decide) (fun c_9 => ?_) (fun c_9 => ?_)
        · replace hf := zif c_9 hf
          refine lv_goto (tgt := 9) hx hb dX9_fault_34 (by decide) ?_
          exact ih _ hf _ _ _ hP hD hS (lv_sub hl [1] rfl)
        · replace hf := zit c_9 hf
          refine lv_iload_n hx hb dX9_fault_32 rfl (lv_at hl 0 rfl) ?_
          cases hf
          exact zretI hx hb hr hlocks hK hP hD hS dX9_fault_33
  unfold f_X9_fault at hf
  refine lv_aload_n hx hb dX9_fault_0 rfl (lv_at hl 0 rfl) ?_
  refine lv_iconst (v := 0) hx hb dX9_fault_1 (by decide) ?_
  obtain ⟨M_1, e_M_1, hf⟩ := zv_some hf
  refine va_put (D := D) (ci := 9) (v := .int 0) (ty := .int) (C := RX9) (T := TX9) (N := 23) hx hb hts hi9 tyX9 tyX9_ok nmX9 hown hK hP hD hS 0 rfl rfl 2 (Nat.le_of_ble_eq_true rfl) (hts _ (List.mem_cons_of_mem _ wd_654)) (fun _ h9 => h9) rfl (by decide +kernel) rfl rfl (Nat.le_of_ble_eq_true rfl) dX9_fault_2 (fun H locs hP hD hS => ?_)
  have hP : va_P D vwCl (w9 cI cB hM (zs M 2 (fun _ => 0))) H := hP
  have hD : va_D A (w9 cI cB hM (zs M 2 (fun _ => 0))) := hD
  rw [← e_M_1] at hP hD
  refine lv_aload_n hx hb dX9_fault_5 rfl (lv_at hl 0 rfl) ?_
  obtain ⟨M_2, hq3, hf⟩ := zb1_some hf
  refine zcallVv (ws2 := (w9 cI cB hM M_2)) (rest := []) ⟨hx, hb, hml, hown, hts⟩ (c_X9_begins l D cI cB hM M_1 M_2 hq3) (cwV 0 hts (z_gV hG wd_644 wd_646 wd_s21 wd_15 wd_647) rfl rfl rfl q_X9_begins ⟨Nat.le_of_ble_eq_true rfl, Nat.le_of_ble_eq_true rfl⟩) hK hP hD hS hA 9 rfl rfl rfl [0, 1, 2, 3, 4, 5, 6, 7, 8, 9, 10, 11, 12, 13, 14, 15, 16, 17] [] rfl rfl rfl rfl rfl rfl rfl hl.1 (Nat.le_of_ble_eq_true rfl) dX9_fault_6 ⟨Nat.zero_le _, Nat.zero_le _⟩ rfl (fun H locs hP hD hS => ?_)
  exact L9 _ _ hf _ _ _ hP hD hS (lv_sub hl [0] rfl)
def f_X9_lay (M : zMm) : Option (Int32 × zMm) := zb2 (f_X9_fault M) (fun (r1 : Int32) (M_2 : zMm) => if r1 = (-4) then if (M_2 6 1) = 0 then some (((-2) : Int32), M_2) else zb1 (f_X9_takes M_2) (fun (M_6 : zMm) => some (M_6 6 0, M_6)) else some (((-2) : Int32), M_2))
abbrev ww_X9_lay : List Cond := Cond.code yX9_lay cX9_lay 1 (some .int) :: wG
theorem q_X9_lay : yX9_lay.cls = RX9 ∧ yX9_lay.cls ≠ "java/lang/invoke/MethodHandle" ∧ yX9_lay.cls ≠ "java/lang/invoke/VarHandle" ∧ (parseMethodDescriptor yX9_lay.desc).map (fun d => d.parameters.length) = some 0 := by decide +kernel
set_option maxHeartbeats 4000000 in
set_option maxRecDepth 100000 in
theorem c_X9_lay (l : Launch) (D : va_G) (cI cB : ClassId) (hM : Nat → Nat) (M : zMm) (r0 : Int32) (M0 : zMm) (hf : f_X9_lay M = some (r0, M0)) : zMi l yX9_lay ww_X9_lay ({ frames := 4, cells := 0, slots := 0, locals := 93 } : Room) D cI cB [.ref (hM 0)] (w9 cI cB hM M) r0 (w9 cI cB hM M0) := by
  refine zofI (cc := cX9_lay) (maxL := 1) (ret := (some .int)) (by decide +kernel) rfl (Nat.le_of_ble_eq_true rfl) ?_
  intro p e s m below meth c A ls hx hb hml hr hown hts hlocks hK hP hD hS hA hl
  have hl : lv_has ls 1 [(0, .ref (hM 0))] := hl
  have hown : s.vm.findClass RX9 = some m.cls := hown
  have hG : ∀ w ∈ wG, w ∈ ww_X9_lay := fun w h => List.mem_cons_of_mem _ h
  have hi9 : ∀ w ∈ wsX90, w ∈ ww_X9_lay := fun w h => List.mem_cons_of_mem _ (z_inX9 w h)
  unfold f_X9_lay at hf
  refine lv_aload_n hx hb dX9_lay_0 rfl (lv_at hl 0 rfl) ?_
  obtain ⟨r1, M_2, hq3, hf⟩ := zb2_some hf
  refine zcallVi (ws2 := (w9 cI cB hM M_2)) (rest := []) ⟨hx, hb, hml, hown, hts⟩ (c_X9_fault l D cI cB hM M r1 M_2 hq3) (cwV 0 hts (z_gV hG wd_764 wd_735 wd_736 wd_15 wd_737) rfl rfl rfl q_X9_fault ⟨Nat.le_of_ble_eq_true rfl, Nat.le_of_ble_eq_true rfl⟩) hK hP hD hS hA 9 rfl rfl rfl [0, 1, 2, 3, 4, 5, 6, 7, 8, 9, 10, 11, 12, 13, 14, 15, 16, 17] [] rfl rfl rfl rfl rfl rfl rfl hl.1 (Nat.le_of_ble_eq_true rfl) dX9_lay_1 ⟨Nat.zero_le _, Nat.zero_le _⟩ rfl (fun H locs hP hD hS => ?_)
  refine lv_bipush (v := (-4)) hx hb dX9_lay_4 (by decide) ?_
  refine lv_icmp_ne (tgt := 18) hx hb dX9_lay_6 (by decide) (fun c_4 => ?_) (fun c_4 => ?_)
  · replace hf := zif c_4 hf
    refine lv_bipush (v := (-2)) hx hb dX9_lay_18 (by decide) ?_
    cases hf
    exact zretI hx hb hr hlocks hK hP hD hS dX9_lay_20
  · replace hf := zit c_4 hf
    refine lv_aload_n hx hb dX9_lay_9 rfl (lv_at hl 0 rfl) ?_
    refine va_get (D := D) (ci := 9) (v := .ref (hM 5)) (C := RX9) (T := TX9) (N := 23) hx hb hts hi9 hown hK hP 0 rfl rfl 6 (Nat.le_of_ble_eq_true rfl) (hts _ (List.mem_cons_of_mem _ wd_658)) (fun _ h9 => h9) rfl dX9_lay_10 ?_
    refine lv_iconst (v := 1) hx hb dX9_lay_13 (by decide) ?_
    refine va_iald (n := 2) (f := M_2 6) (cA := cI) hx hb hK hP 5 0 rfl rfl (z_in (by decide)) dX9_lay_14 ?_
    refine z_tc (k := 1) (by decide) ?_
    refine lv_if_ne (tgt := 21) hx hb dX9_lay_15 (by decide) (fun c_5 => ?_) (fun c_5 => ?_)
    · replace hf := zif c_5 hf
      refine lv_aload_n hx hb dX9_lay_21 rfl (lv_at hl 0 rfl) ?_
      obtain ⟨M_6, hq7, hf⟩ := zb1_some hf
      refine zcallVv (ws2 := (w9 cI cB hM M_6)) (rest := []) ⟨hx, hb, hml, hown, hts⟩ (c_X9_takes l D cI cB hM M_2 M_6 hq7) (cwV 0 hts (z_gV hG wd_648 wd_650 wd_s22 wd_15 wd_651) rfl rfl rfl q_X9_takes ⟨Nat.le_of_ble_eq_true rfl, Nat.le_of_ble_eq_true rfl⟩) hK hP hD hS hA 9 rfl rfl rfl [0, 1, 2, 3, 4, 5, 6, 7, 8, 9, 10, 11, 12, 13, 14, 15, 16, 17] [] rfl rfl rfl rfl rfl rfl rfl hl.1 (Nat.le_of_ble_eq_true rfl) dX9_lay_22 ⟨Nat.zero_le _, Nat.zero_le _⟩ rfl (fun H locs hP hD hS => ?_)
      refine lv_aload_n hx hb dX9_lay_25 rfl (lv_at hl 0 rfl) ?_
      refine va_get (D := D) (ci := 9) (v := .ref (hM 5)) (C := RX9) (T := TX9) (N := 23) hx hb hts hi9 hown hK hP 0 rfl rfl 6 (Nat.le_of_ble_eq_true rfl) (hts _ (List.mem_cons_of_mem _ wd_658)) (fun _ h9 => h9) rfl dX9_lay_26 ?_
      refine lv_iconst (v := 0) hx hb dX9_lay_29 (by decide) ?_
      refine va_iald (n := 2) (f := M_6 6) (cA := cI) hx hb hK hP 5 0 rfl rfl (z_in (by decide)) dX9_lay_30 ?_
      refine z_tc (k := 0) (by decide) ?_
      cases hf
      exact zretI hx hb hr hlocks hK hP hD hS dX9_lay_31
    · replace hf := zit c_5 hf
      refine lv_bipush (v := (-2)) hx hb dX9_lay_18 (by decide) ?_
      cases hf
      exact zretI hx hb hr hlocks hK hP hD hS dX9_lay_20
def f_X9_isPart (M : zMm) (a1 : Int32) : Option (Int32) := zb1 (f_X9_in (a1.toInt64) 0 (((M 6 0) - 1).toInt64)) (fun (r1 : Int32) => zo r1 (some r1))
abbrev ww_X9_isPart : List Cond := Cond.code yX9_isPart cX9_isPart 2 (some .boolean) :: wG
theorem q_X9_isPart : yX9_isPart.cls = RX9 ∧ yX9_isPart.cls ≠ "java/lang/invoke/MethodHandle" ∧ yX9_isPart.cls ≠ "java/lang/invoke/VarHandle" ∧ (parseMethodDescriptor yX9_isPart.desc).map (fun d => d.parameters.length) = some 1 := by decide +kernel
set_option maxHeartbeats 4000000 in
set_option maxRecDepth 100000 in
theorem c_X9_isPart (l : Launch) (D : va_G) (cI cB : ClassId) (hM : Nat → Nat) (M : zMm) (a1 : Int32) (r0 : Int32) (hf : f_X9_isPart M a1 = some r0) : zMi l yX9_isPart ww_X9_isPart ({ frames := 1, cells := 0, slots := 0, locals := 25 } : Room) D cI cB [.ref (hM 0), .int a1] [k9_0 cI cB hM M, k9_5 cI cB hM M] r0 [k9_0 cI cB hM M, k9_5 cI cB hM M] := by
  refine zofI (cc := cX9_isPart) (maxL := 2) (ret := (some .boolean)) (by decide +kernel) rfl (Nat.le_of_ble_eq_true rfl) ?_
  intro p e s m below meth c A ls hx hb hml hr hown hts hlocks hK hP hD hS hA hl
  have hl : lv_has ls 2 [(0, .ref (hM 0)), (1, .int a1)] := hl
  have hown : s.vm.findClass RX9 = some m.cls := hown
  have hG : ∀ w ∈ wG, w ∈ ww_X9_isPart := fun w h => List.mem_cons_of_mem _ h
  have hi9 : ∀ w ∈ wsX90, w ∈ ww_X9_isPart := fun w h => List.mem_cons_of_mem _ (z_inX9 w h)
  unfold f_X9_isPart at hf
  refine lv_iload_n hx hb dX9_isPart_0 rfl (lv_at hl 1 rfl) ?_
  refine lv_i2l hx hb dX9_isPart_1 rfl ?_
  refine lv_lconst (v := 0) hx hb dX9_isPart_2 (by decide) ?_
  refine lv_aload_n hx hb dX9_isPart_3 rfl (lv_at hl 0 rfl) ?_
  refine va_get (D := D) (ci := 9) (v := .ref (hM 5)) (C := RX9) (T := TX9) (N := 23) hx hb hts hi9 hown hK hP 0 rfl rfl 6 (Nat.le_of_ble_eq_true rfl) (hts _ (List.mem_cons_of_mem _ wd_658)) (fun _ h9 => h9) rfl dX9_isPart_4 ?_
  refine lv_iconst (v := 0) hx hb dX9_isPart_7 (by decide) ?_
  refine va_iald (n := 2) (f := M 6) (cA := cI) hx hb hK hP 1 0 rfl rfl (z_in (by decide)) dX9_isPart_8 ?_
  refine z_tc (k := 0) (by decide) ?_
  refine lv_iconst (v := 1) hx hb dX9_isPart_9 (by decide) ?_
  refine lv_isub hx hb dX9_isPart_10 ?_
  refine lv_i2l hx hb dX9_isPart_11 rfl ?_
  obtain ⟨r1, hq2, hf⟩ := zb1_some hf
  refine zcallSi (rest := []) ⟨hx, hb, hml, hown, hts⟩ (c_X9_in l D cI cB (a1.toInt64) 0 (((M 6 0) - 1).toInt64) r1 hq2) (z_cwS 3 hts (z_gS hG wd_727 wd_728 wd_15 wd_729) rfl rfl rfl q_X9_in ⟨Nat.le_of_ble_eq_true rfl, Nat.le_of_ble_eq_true rfl⟩) hK hP hD hS hA rfl hl.1 (Nat.le_of_ble_eq_true rfl) dX9_isPart_12 ⟨Nat.zero_le _, Nat.zero_le _⟩ rfl (fun H locs hP hD hS => ?_)
  obtain ⟨hn, hf⟩ := zo_some hf
  cases hf
  exact zretB hx hb hr hlocks hn hK hP hD hS dX9_isPart_15
def f_X9_isTailor (M : zMm) (a1 : Int32) : Option (Int32) := zb1 (f_X9_in (a1.toInt64) 0 (((M 4 0) - 1).toInt64)) (fun (r1 : Int32) => zo r1 (some r1))
abbrev ww_X9_isTailor : List Cond := Cond.code yX9_isTailor cX9_isTailor 2 (some .boolean) :: wG
theorem q_X9_isTailor : yX9_isTailor.cls = RX9 ∧ yX9_isTailor.cls ≠ "java/lang/invoke/MethodHandle" ∧ yX9_isTailor.cls ≠ "java/lang/invoke/VarHandle" ∧ (parseMethodDescriptor yX9_isTailor.desc).map (fun d => d.parameters.length) = some 1 := by decide +kernel
set_option maxHeartbeats 4000000 in
set_option maxRecDepth 100000 in
theorem c_X9_isTailor (l : Launch) (D : va_G) (cI cB : ClassId) (hM : Nat → Nat) (M : zMm) (a1 : Int32) (r0 : Int32) (hf : f_X9_isTailor M a1 = some r0) : zMi l yX9_isTailor ww_X9_isTailor ({ frames := 1, cells := 0, slots := 0, locals := 25 } : Room) D cI cB [.ref (hM 0), .int a1] [k9_0 cI cB hM M, k9_3 cI cB hM M] r0 [k9_0 cI cB hM M, k9_3 cI cB hM M] := by
  refine zofI (cc := cX9_isTailor) (maxL := 2) (ret := (some .boolean)) (by decide +kernel) rfl (Nat.le_of_ble_eq_true rfl) ?_
  intro p e s m below meth c A ls hx hb hml hr hown hts hlocks hK hP hD hS hA hl
  have hl : lv_has ls 2 [(0, .ref (hM 0)), (1, .int a1)] := hl
  have hown : s.vm.findClass RX9 = some m.cls := hown
  have hG : ∀ w ∈ wG, w ∈ ww_X9_isTailor := fun w h => List.mem_cons_of_mem _ h
  have hi9 : ∀ w ∈ wsX90, w ∈ ww_X9_isTailor := fun w h => List.mem_cons_of_mem _ (z_inX9 w h)
  unfold f_X9_isTailor at hf
  refine lv_iload_n hx hb dX9_isTailor_0 rfl (lv_at hl 1 rfl) ?_
  refine lv_i2l hx hb dX9_isTailor_1 rfl ?_
  refine lv_lconst (v := 0) hx hb dX9_isTailor_2 (by decide) ?_
  refine lv_aload_n hx hb dX9_isTailor_3 rfl (lv_at hl 0 rfl) ?_
  refine va_get (D := D) (ci := 9) (v := .ref (hM 3)) (C := RX9) (T := TX9) (N := 23) hx hb hts hi9 hown hK hP 0 rfl rfl 4 (Nat.le_of_ble_eq_true rfl) (hts _ (List.mem_cons_of_mem _ wd_656)) (fun _ h9 => h9) rfl dX9_isTailor_4 ?_
  refine lv_iconst (v := 0) hx hb dX9_isTailor_7 (by decide) ?_
  refine va_iald (n := 2) (f := M 4) (cA := cI) hx hb hK hP 1 0 rfl rfl (z_in (by decide)) dX9_isTailor_8 ?_
  refine z_tc (k := 0) (by decide) ?_
  refine lv_iconst (v := 1) hx hb dX9_isTailor_9 (by decide) ?_
  refine lv_isub hx hb dX9_isTailor_10 ?_
  refine lv_i2l hx hb dX9_isTailor_11 rfl ?_
  obtain ⟨r1, hq2, hf⟩ := zb1_some hf
  refine zcallSi (rest := []) ⟨hx, hb, hml, hown, hts⟩ (c_X9_in l D cI cB (a1.toInt64) 0 (((M 4 0) - 1).toInt64) r1 hq2) (z_cwS 3 hts (z_gS hG wd_727 wd_728 wd_15 wd_729) rfl rfl rfl q_X9_in ⟨Nat.le_of_ble_eq_true rfl, Nat.le_of_ble_eq_true rfl⟩) hK hP hD hS hA rfl hl.1 (Nat.le_of_ble_eq_true rfl) dX9_isTailor_12 ⟨Nat.zero_le _, Nat.zero_le _⟩ rfl (fun H locs hP hD hS => ?_)
  obtain ⟨hn, hf⟩ := zo_some hf
  cases hf
  exact zretB hx hb hr hlocks hn hK hP hD hS dX9_isTailor_15
def f_X9_slip (a0 : Int32) (a1 : Int32) (a2 : Int32) : Option (Int32) := zb1 (if (5 : Int32) ≤ a2 then some (5 : Int32) else some a2) (fun (y2 : Int32) => zv (((((7919 : Int64) * (a0.toInt64)) + ((6151 : Int64) * (a1.toInt64))) + ((3571 : Int64) * (a2.toInt64))) + 1) (fun (x5 : Int64) => zdL ((((2 : Int32) * y2) + 1).toInt64) (some (((zrL (zrL (x5 * x5) (65521 : Int64)) ((((2 : Int32) * y2) + 1).toInt64)).toInt32) - y2))))
abbrev ww_X9_slip : List Cond := Cond.code yX9_slip cX9_slip 6 (some .int) :: wG
theorem q_X9_slip : yX9_slip.cls ≠ "java/lang/invoke/MethodHandle" ∧ yX9_slip.cls ≠ "java/lang/invoke/VarHandle" ∧ (parseMethodDescriptor yX9_slip.desc).map (fun d => d.parameters.length) = some 3 := by decide +kernel
set_option maxHeartbeats 4000000 in
set_option maxRecDepth 100000 in
theorem c_X9_slip (l : Launch) (D : va_G) (cI cB : ClassId)  (a0 : Int32) (a1 : Int32) (a2 : Int32) (r0 : Int32) (hf : f_X9_slip a0 a1 a2 = some r0) : zMi l yX9_slip ww_X9_slip ({ frames := 0, cells := 0, slots := 0, locals := 0 } : Room) D cI cB [.int a0, .int a1, .int a2] [] r0 [] := by
  refine zofI (cc := cX9_slip) (maxL := 6) (ret := (some .int)) (by decide +kernel) rfl (Nat.le_of_ble_eq_true rfl) ?_
  intro p e s m below meth c A ls hx hb hml hr hown hts hlocks hK hP hD hS hA hl
  have hl : lv_has ls 6 [(0, .int a0), (1, .int a1), (2, .int a2)] := hl
  have hown : s.vm.findClass RX9 = some m.cls := hown
  have hG : ∀ w ∈ wG, w ∈ ww_X9_slip := fun w h => List.mem_cons_of_mem _ h
  unfold f_X9_slip at hf
  refine lv_iload_n hx hb dX9_slip_0 rfl (lv_at hl 2 rfl) ?_
  refine lv_iconst (v := 5) hx hb dX9_slip_1 (by decide) ?_
  obtain ⟨y2, hq3, hf⟩ := zb1_some hf
  have J4 : zAt p l e ({ frames := 0, cells := 0, slots := 0, locals := 0 } : Room) s m [.int a0, .int a1, .int a2].toArray below meth c (MQ below (zQi D cI cB r0 [] A) [.int a0, .int a1, .int a2].toArray s 0 0 A) A D 6 [] [(0, .int a0), (1, .int a1), (2, .int a2)] 10 [.int y2] := by
    intro H locs ls hP hD hS hl
    refine lv_istore_n (lv' := [(3, .int y2), (0, .int a0), (1, .int a1), (2, .int a2)]) hx hb dX9_slip_10 rfl hl (by decide) rfl (fun ls hl => ?_)
    refine lv_ldc2 (v := 7919) hx hb hown (hts _ (List.mem_cons_of_mem _ wd_785)) dX9_slip_11 ?_
    refine lv_iload_n hx hb dX9_slip_14 rfl (lv_at hl 1 rfl) ?_
    refine lv_i2l hx hb dX9_slip_15 rfl ?_
    refine lv_lmul hx hb dX9_slip_16 ?_
    refine lv_ldc2 (v := 6151) hx hb hown (hts _ (List.mem_cons_of_mem _ wd_786)) dX9_slip_17 ?_
    refine lv_iload_n hx hb dX9_slip_20 rfl (lv_at hl 2 rfl) ?_
    refine lv_i2l hx hb dX9_slip_21 rfl ?_
    refine lv_lmul hx hb dX9_slip_22 ?_
    refine lv_ladd hx hb dX9_slip_23 ?_
    refine lv_ldc2 (v := 3571) hx hb hown (hts _ (List.mem_cons_of_mem _ wd_787)) dX9_slip_24 ?_
    refine lv_iload_n hx hb dX9_slip_27 rfl (lv_at hl 3 rfl) ?_
    refine lv_i2l hx hb dX9_slip_28 rfl ?_
    refine lv_lmul hx hb dX9_slip_29 ?_
    refine lv_ladd hx hb dX9_slip_30 ?_
    refine lv_lconst (v := 1) hx hb dX9_slip_31 (by decide) ?_
    refine lv_ladd hx hb dX9_slip_32 ?_
    obtain ⟨x5, e_x5, hf⟩ := zv_some hf
    refine ztL e_x5 ?_
    refine lv_lstore (lv' := [(4, .long x5), (3, .int y2), (0, .int a0), (1, .int a1), (2, .int a2)]) hx hb dX9_slip_33 hl (by decide) rfl (fun ls hl => ?_)
    refine lv_lload hx hb dX9_slip_35 (lv_at hl 0 rfl) ?_
    refine lv_lload hx hb dX9_slip_37 (lv_at hl 0 rfl) ?_
    refine lv_lmul hx hb dX9_slip_39 ?_
    refine lv_ldc2 (v := 65521) hx hb hown (hts _ (List.mem_cons_of_mem _ wd_788)) dX9_slip_40 ?_
    refine lv_lrem hx hb dX9_slip_43 (by decide) ?_
    refine ztL (y := zrL (x5 * x5) (65521 : Int64)) rfl ?_
    refine lv_iconst (v := 2) hx hb dX9_slip_44 (by decide) ?_
    refine lv_iload_n hx hb dX9_slip_45 rfl (lv_at hl 1 rfl) ?_
    refine lv_imul hx hb dX9_slip_46 ?_
    refine lv_iconst (v := 1) hx hb dX9_slip_47 (by decide) ?_
    refine lv_iadd hx hb dX9_slip_48 ?_
    refine lv_i2l hx hb dX9_slip_49 rfl ?_
    obtain ⟨n6, hf⟩ := zdL_some hf
    refine lv_lrem hx hb dX9_slip_50 n6 ?_
    refine ztL (y := zrL (zrL (x5 * x5) (65521 : Int64)) ((((2 : Int32) * y2) + 1).toInt64)) rfl ?_
    refine lv_l2i hx hb dX9_slip_51 rfl ?_
    refine lv_iload_n hx hb dX9_slip_52 rfl (lv_at hl 1 rfl) ?_
    refine lv_isub hx hb dX9_slip_53 ?_
    cases hf
    exact zretI hx hb hr hlocks hK hP hD hS dX9_slip_54
  replace hf := hq3
  refine lv_icmp_ge (tgt := 9) hx hb dX9_slip_2 (by decide) (fun c_1 => ?_) (fun c_1 => ?_)
  · replace hf := zit c_1 hf
    refine lv_iconst (v := 5) hx hb dX9_slip_9 (by decide) ?_
    cases hf
    exact J4 _ _ _ hP hD hS (lv_sub hl [0, 1, 2] rfl)
  · replace hf := zif c_1 hf
    refine lv_iload_n hx hb dX9_slip_5 rfl (lv_at hl 2 rfl) ?_
    refine lv_goto (tgt := 10) hx hb dX9_slip_6 (by decide) ?_
    cases hf
    exact J4 _ _ _ hP hD hS (lv_sub hl [0, 1, 2] rfl)
def f_X9_cutOf (M : zMm) (a1 : Int32) (a2 : Int32) : Option (Int32) := zl 42 (M 7) (((3 : Int32) * a1) + 1) (fun v1 => zl 42 (M 7) (((3 : Int32) * a1) + 0) (fun v2 => zl 12 (M 5) v2 (fun v3 => some (((v1 + a2) * v3) / (100 : Int32)))))
abbrev ww_X9_cutOf : List Cond := Cond.code yX9_cutOf cX9_cutOf 3 (some .int) :: wG
theorem q_X9_cutOf : yX9_cutOf.cls = RX9 ∧ yX9_cutOf.cls ≠ "java/lang/invoke/MethodHandle" ∧ yX9_cutOf.cls ≠ "java/lang/invoke/VarHandle" ∧ (parseMethodDescriptor yX9_cutOf.desc).map (fun d => d.parameters.length) = some 2 := by decide +kernel
set_option maxHeartbeats 4000000 in
set_option maxRecDepth 100000 in
theorem c_X9_cutOf (l : Launch) (D : va_G) (cI cB : ClassId) (hM : Nat → Nat) (M : zMm) (a1 : Int32) (a2 : Int32) (r0 : Int32) (hf : f_X9_cutOf M a1 a2 = some r0) : zMi l yX9_cutOf ww_X9_cutOf ({ frames := 0, cells := 0, slots := 0, locals := 0 } : Room) D cI cB [.ref (hM 0), .int a1, .int a2] [k9_0 cI cB hM M, k9_4 cI cB hM M, k9_6 cI cB hM M] r0 [k9_0 cI cB hM M, k9_4 cI cB hM M, k9_6 cI cB hM M] := by
  refine zofI (cc := cX9_cutOf) (maxL := 3) (ret := (some .int)) (by decide +kernel) rfl (Nat.le_of_ble_eq_true rfl) ?_
  intro p e s m below meth c A ls hx hb hml hr hown hts hlocks hK hP hD hS hA hl
  have hl : lv_has ls 3 [(0, .ref (hM 0)), (1, .int a1), (2, .int a2)] := hl
  have hown : s.vm.findClass RX9 = some m.cls := hown
  have hG : ∀ w ∈ wG, w ∈ ww_X9_cutOf := fun w h => List.mem_cons_of_mem _ h
  have hi9 : ∀ w ∈ wsX90, w ∈ ww_X9_cutOf := fun w h => List.mem_cons_of_mem _ (z_inX9 w h)
  unfold f_X9_cutOf at hf
  refine lv_aload_n hx hb dX9_cutOf_0 rfl (lv_at hl 0 rfl) ?_
  refine va_get (D := D) (ci := 9) (v := .ref (hM 6)) (C := RX9) (T := TX9) (N := 23) hx hb hts hi9 hown hK hP 0 rfl rfl 7 (Nat.le_of_ble_eq_true rfl) (hts _ (List.mem_cons_of_mem _ wd_659)) (fun _ h9 => h9) rfl dX9_cutOf_1 ?_
  refine lv_iconst (v := 3) hx hb dX9_cutOf_4 (by decide) ?_
  refine lv_iload_n hx hb dX9_cutOf_5 rfl (lv_at hl 1 rfl) ?_
  refine lv_imul hx hb dX9_cutOf_6 ?_
  refine lv_iconst (v := 1) hx hb dX9_cutOf_7 (by decide) ?_
  refine lv_iadd hx hb dX9_cutOf_8 ?_
  obtain ⟨i_v1, v1, e_v1, hf⟩ := zl_some hf
  refine va_iald (n := 42) (f := M 7) (cA := cI) hx hb hK hP 2 0 rfl rfl i_v1 dX9_cutOf_9 ?_
  refine zt e_v1 ?_
  refine lv_iload_n hx hb dX9_cutOf_10 rfl (lv_at hl 2 rfl) ?_
  refine lv_iadd hx hb dX9_cutOf_11 ?_
  refine lv_aload_n hx hb dX9_cutOf_12 rfl (lv_at hl 0 rfl) ?_
  refine va_get (D := D) (ci := 9) (v := .ref (hM 4)) (C := RX9) (T := TX9) (N := 23) hx hb hts hi9 hown hK hP 0 rfl rfl 5 (Nat.le_of_ble_eq_true rfl) (hts _ (List.mem_cons_of_mem _ wd_657)) (fun _ h9 => h9) rfl dX9_cutOf_13 ?_
  refine lv_aload_n hx hb dX9_cutOf_16 rfl (lv_at hl 0 rfl) ?_
  refine va_get (D := D) (ci := 9) (v := .ref (hM 6)) (C := RX9) (T := TX9) (N := 23) hx hb hts hi9 hown hK hP 0 rfl rfl 7 (Nat.le_of_ble_eq_true rfl) (hts _ (List.mem_cons_of_mem _ wd_659)) (fun _ h9 => h9) rfl dX9_cutOf_17 ?_
  refine lv_iconst (v := 3) hx hb dX9_cutOf_20 (by decide) ?_
  refine lv_iload_n hx hb dX9_cutOf_21 rfl (lv_at hl 1 rfl) ?_
  refine lv_imul hx hb dX9_cutOf_22 ?_
  refine lv_iconst (v := 0) hx hb dX9_cutOf_23 (by decide) ?_
  refine lv_iadd hx hb dX9_cutOf_24 ?_
  obtain ⟨i_v2, v2, e_v2, hf⟩ := zl_some hf
  refine va_iald (n := 42) (f := M 7) (cA := cI) hx hb hK hP 2 0 rfl rfl i_v2 dX9_cutOf_25 ?_
  refine zt e_v2 ?_
  obtain ⟨i_v3, v3, e_v3, hf⟩ := zl_some hf
  refine va_iald (n := 12) (f := M 5) (cA := cI) hx hb hK hP 1 0 rfl rfl i_v3 dX9_cutOf_26 ?_
  refine zt e_v3 ?_
  refine lv_imul hx hb dX9_cutOf_27 ?_
  refine lv_bipush (v := 100) hx hb dX9_cutOf_28 (by decide) ?_
  refine lv_idiv hx hb dX9_cutOf_30 (by decide) ?_
  cases hf
  exact zretI hx hb hr hlocks hK hP hD hS dX9_cutOf_31
def L_X9_placeOf_2 (M : zMm) (l1 : Int32) : Nat → Int32 → Option (Int32)
  | 0, _ => none
  | n + 1, l2 => zl 154 (M 10) l2 (fun v1 => if v1 = l1 then some l2 else zv (l2 + 1) (fun (x3 : Int32) => L_X9_placeOf_2 M l1 n x3))
def f_X9_placeOf (M : zMm) (a1 : Int32) : Option (Int32) := zb1 (L_X9_placeOf_2 M a1 100000 0) (fun (x4 : Int32) => some x4)
abbrev ww_X9_placeOf : List Cond := Cond.code yX9_placeOf cX9_placeOf 3 (some .int) :: wG
theorem q_X9_placeOf : yX9_placeOf.cls = RX9 ∧ yX9_placeOf.cls ≠ "java/lang/invoke/MethodHandle" ∧ yX9_placeOf.cls ≠ "java/lang/invoke/VarHandle" ∧ (parseMethodDescriptor yX9_placeOf.desc).map (fun d => d.parameters.length) = some 1 := by decide +kernel
set_option maxHeartbeats 4000000 in
set_option maxRecDepth 100000 in
theorem c_X9_placeOf (l : Launch) (D : va_G) (cI cB : ClassId) (hM : Nat → Nat) (M : zMm) (a1 : Int32) (r0 : Int32) (hf : f_X9_placeOf M a1 = some r0) : zMi l yX9_placeOf ww_X9_placeOf ({ frames := 0, cells := 0, slots := 0, locals := 0 } : Room) D cI cB [.ref (hM 0), .int a1] [k9_0 cI cB hM M, k9_9 cI cB hM M] r0 [k9_0 cI cB hM M, k9_9 cI cB hM M] := by
  refine zofI (cc := cX9_placeOf) (maxL := 3) (ret := (some .int)) (by decide +kernel) rfl (Nat.le_of_ble_eq_true rfl) ?_
  intro p e s m below meth c A ls hx hb hml hr hown hts hlocks hK hP hD hS hA hl
  have hl : lv_has ls 3 [(0, .ref (hM 0)), (1, .int a1)] := hl
  have hown : s.vm.findClass RX9 = some m.cls := hown
  have hG : ∀ w ∈ wG, w ∈ ww_X9_placeOf := fun w h => List.mem_cons_of_mem _ h
  have hi9 : ∀ w ∈ wsX90, w ∈ ww_X9_placeOf := fun w h => List.mem_cons_of_mem _ (z_inX9 w h)
  have L2 : ∀ (M : zMm) (l1 : Int32) (n : Nat) (l2 : Int32) (o2 : Int32), L_X9_placeOf_2 M l1 n l2 = some o2 → zAt p l e ({ frames := 0, cells := 0, slots := 0, locals := 0 } : Room) s m [.ref (hM 0), .int a1].toArray below meth c (MQ below (zQi D cI cB r0 [k9_0 cI cB hM M, k9_9 cI cB hM M] A) [.ref (hM 0), .int a1].toArray s 0 0 A) A D 3 [k9_0 cI cB hM M, k9_9 cI cB hM M] [(0, .ref (hM 0)), (1, .int l1), (2, .int o2)] 18 [] → zAt p l e ({ frames := 0, cells := 0, slots := 0, locals := 0 } : Room) s m [.ref (hM 0), .int a1].toArray below meth c (MQ below (zQi D cI cB r0 [k9_0 cI cB hM M, k9_9 cI cB hM M] A) [.ref (hM 0), .int a1].toArray s 0 0 A) A D 3 [k9_0 cI cB hM M, k9_9 cI cB hM M] [(0, .ref (hM 0)), (1, .int l1), (2, .int l2)] 2 [] := by
    intro M l1 n
    induction n with
    | zero => intro l2 o2 hf; simp [L_X9_placeOf_2] at hf
    | succ n ih =>
      intro l2 o2 hf hk H locs ls hP hD hS hl
      rw [L_X9_placeOf_2] at hf
      refine lv_aload_n hx hb dX9_placeOf_2 rfl (lv_at hl 0 rfl) ?_
      refine va_get (D := D) (ci := 9) (v := .ref (hM 9)) (C := RX9) (T := TX9) (N := 23) hx hb hts hi9 hown hK hP 0 rfl rfl 10 (Nat.le_of_ble_eq_true rfl) (hts _ (List.mem_cons_of_mem _ wd_662)) (fun _ h9 => h9) rfl dX9_placeOf_3 ?_
      refine lv_iload_n hx hb dX9_placeOf_6 rfl (lv_at hl 2 rfl) ?_
      obtain ⟨i_v1, v1, e_v1, hf⟩ := zl_some hf
      refine va_iald (n := 154) (f := M 10) (cA := cI) hx hb hK hP 1 0 rfl rfl i_v1 dX9_placeOf_7 ?_
      refine zt e_v1 ?_
      refine lv_iload_n hx hb dX9_placeOf_8 rfl (lv_at hl 1 rfl) ?_
      refine lv_icmp_eq (tgt := 18) hx hb dX9_placeOf_9 (by decide) (fun c_2 => ?_) (fun c_2 => ?_)
      · replace hf := zit c_2 hf
        cases hf
        exact hk _ _ _ hP hD hS (lv_sub hl [0, 1, 2] rfl)
      · replace hf := zif c_2 hf
        obtain ⟨x3, e_x3, hf⟩ := zv_some hf
        refine lv_iinc (v := x3) (lv' := [(2, .int x3), (0, .ref (hM 0)), (1, .int l1)]) hx hb dX9_placeOf_12 hl (k := 2) rfl (by rw [e_x3]; rfl) (by decide) rfl (fun ls hl => ?_)
        refine lv_goto (tgt := 2) hx hb dX9_placeOf_15 (by decide) ?_
        exact ih _ _ hf hk _ _ _ hP hD hS (lv_sub hl [1, 2, 0] rfl)
  unfold f_X9_placeOf at hf
  refine lv_iconst (v := 0) hx hb dX9_placeOf_0 (by decide) ?_
  refine lv_istore_n (lv' := [(2, .int 0), (0, .ref (hM 0)), (1, .int a1)]) hx hb dX9_placeOf_1 rfl hl (by decide) rfl (fun ls hl => ?_)
  obtain ⟨x4, hq5, hf⟩ := zb1_some hf
  refine L2 _ _ _ _ _ hq5 ?_ _ _ _ hP hD hS (lv_sub hl [1, 2, 0] rfl)
  intro H locs ls hP hD hS hl
  refine lv_iload_n hx hb dX9_placeOf_18 rfl (lv_at hl 2 rfl) ?_
  cases hf
  exact zretI hx hb hr hlocks hK hP hD hS dX9_placeOf_19
def f_X9_slipNow (M : zMm) (a1 : Int32) : Option (Int32) := zb1 (f_X9_placeOf M a1) (fun (r1 : Int32) => zb1 (f_X9_slip (M 3 1) a1 r1) (fun (r3 : Int32) => some r3))
abbrev ww_X9_slipNow : List Cond := Cond.code yX9_slipNow cX9_slipNow 2 (some .int) :: wG
theorem q_X9_slipNow : yX9_slipNow.cls = RX9 ∧ yX9_slipNow.cls ≠ "java/lang/invoke/MethodHandle" ∧ yX9_slipNow.cls ≠ "java/lang/invoke/VarHandle" ∧ (parseMethodDescriptor yX9_slipNow.desc).map (fun d => d.parameters.length) = some 1 := by decide +kernel
set_option maxHeartbeats 4000000 in
set_option maxRecDepth 100000 in
theorem c_X9_slipNow (l : Launch) (D : va_G) (cI cB : ClassId) (hM : Nat → Nat) (M : zMm) (a1 : Int32) (r0 : Int32) (hf : f_X9_slipNow M a1 = some r0) : zMi l yX9_slipNow ww_X9_slipNow ({ frames := 1, cells := 0, slots := 0, locals := 25 } : Room) D cI cB [.ref (hM 0), .int a1] [k9_0 cI cB hM M, k9_2 cI cB hM M, k9_9 cI cB hM M] r0 [k9_0 cI cB hM M, k9_2 cI cB hM M, k9_9 cI cB hM M] := by
  refine zofI (cc := cX9_slipNow) (maxL := 2) (ret := (some .int)) (by decide +kernel) rfl (Nat.le_of_ble_eq_true rfl) ?_
  intro p e s m below meth c A ls hx hb hml hr hown hts hlocks hK hP hD hS hA hl
  have hl : lv_has ls 2 [(0, .ref (hM 0)), (1, .int a1)] := hl
  have hown : s.vm.findClass RX9 = some m.cls := hown
  have hG : ∀ w ∈ wG, w ∈ ww_X9_slipNow := fun w h => List.mem_cons_of_mem _ h
  have hi9 : ∀ w ∈ wsX90, w ∈ ww_X9_slipNow := fun w h => List.mem_cons_of_mem _ (z_inX9 w h)
  unfold f_X9_slipNow at hf
  refine lv_aload_n hx hb dX9_slipNow_0 rfl (lv_at hl 0 rfl) ?_
  refine va_get (D := D) (ci := 9) (v := .ref (hM 2)) (C := RX9) (T := TX9) (N := 23) hx hb hts hi9 hown hK hP 0 rfl rfl 3 (Nat.le_of_ble_eq_true rfl) (hts _ (List.mem_cons_of_mem _ wd_655)) (fun _ h9 => h9) rfl dX9_slipNow_1 ?_
  refine lv_iconst (v := 1) hx hb dX9_slipNow_4 (by decide) ?_
  refine va_iald (n := 6) (f := M 3) (cA := cI) hx hb hK hP 1 0 rfl rfl (z_in (by decide)) dX9_slipNow_5 ?_
  refine z_tc (k := 1) (by decide) ?_
  refine lv_iload_n hx hb dX9_slipNow_6 rfl (lv_at hl 1 rfl) ?_
  refine lv_aload_n hx hb dX9_slipNow_7 rfl (lv_at hl 0 rfl) ?_
  refine lv_iload_n hx hb dX9_slipNow_8 rfl (lv_at hl 1 rfl) ?_
  obtain ⟨r1, hq2, hf⟩ := zb1_some hf
  refine zcallVi (ws2 := [k9_0 cI cB hM M, k9_2 cI cB hM M, k9_9 cI cB hM M]) (rest := [.int a1, .int (M 3 1)]) ⟨hx, hb, hml, hown, hts⟩ (c_X9_placeOf l D cI cB hM M a1 r1 hq2) (cwV 1 hts (z_gV hG wd_774 wd_776 wd_s27 wd_15 wd_777) rfl rfl rfl q_X9_placeOf ⟨Nat.le_of_ble_eq_true rfl, Nat.le_of_ble_eq_true rfl⟩) hK hP hD hS hA 9 rfl rfl rfl [0, 2] [1] rfl rfl rfl rfl rfl rfl rfl hl.1 (Nat.le_of_ble_eq_true rfl) dX9_slipNow_9 ⟨Nat.zero_le _, Nat.zero_le _⟩ rfl (fun H locs hP hD hS => ?_)
  obtain ⟨r3, hq4, hf⟩ := zb1_some hf
  refine zcallSi (rest := []) ⟨hx, hb, hml, hown, hts⟩ (c_X9_slip l D cI cB (M 3 1) a1 r1 r3 hq4) (z_cwS 3 hts (z_gS hG wd_782 wd_783 wd_15 wd_784) rfl rfl rfl q_X9_slip ⟨Nat.le_of_ble_eq_true rfl, Nat.le_of_ble_eq_true rfl⟩) hK hP hD hS hA rfl hl.1 (Nat.le_of_ble_eq_true rfl) dX9_slipNow_12 ⟨Nat.zero_le _, Nat.zero_le _⟩ rfl (fun H locs hP hD hS => ?_)
  cases hf
  exact zretI hx hb hr hlocks hK hP hD hS dX9_slipNow_15
def L_X9_lengths_2  : Nat → Int32 → zMm → Option (Int32 × zMm)
  | 0, _, _ => none
  | n + 1, l1, M => if (M 6 0) ≤ l1 then some (l1, M) else zb1 (f_X9_slipNow M l1) (fun (r2 : Int32) => zb1 (f_X9_cutOf M l1 r2) (fun (r4 : Int32) => zl 154 (M 10) ((7 : Int32) + l1) (fun v6 => zw 7 M 19 l1 (r4 + v6) (fun M_7 => zv (l1 + 1) (fun (x8 : Int32) => L_X9_lengths_2  n x8 M_7)))))
def f_X9_lengths (M : zMm) : Option (zMm) := zb2 (L_X9_lengths_2 100000 0 M) (fun (x9 : Int32) (M_10 : zMm) => some M_10)
abbrev ww_X9_lengths : List Cond := Cond.code yX9_lengths cX9_lengths 2 none :: wG
theorem q_X9_lengths : yX9_lengths.cls = RX9 ∧ yX9_lengths.cls ≠ "java/lang/invoke/MethodHandle" ∧ yX9_lengths.cls ≠ "java/lang/invoke/VarHandle" ∧ (parseMethodDescriptor yX9_lengths.desc).map (fun d => d.parameters.length) = some 0 := by decide +kernel
set_option maxHeartbeats 4000000 in
set_option maxRecDepth 100000 in
theorem c_X9_lengths (l : Launch) (D : va_G) (cI cB : ClassId) (hM : Nat → Nat) (M : zMm) (M0 : zMm) (hf : f_X9_lengths M = some M0) : zMv l yX9_lengths ww_X9_lengths ({ frames := 2, cells := 0, slots := 0, locals := 46 } : Room) D cI cB [.ref (hM 0)] (w9 cI cB hM M) (w9 cI cB hM M0) := by
  refine zofV (cc := cX9_lengths) (maxL := 2) (ret := none) (by decide +kernel) rfl (Nat.le_of_ble_eq_true rfl) ?_
  intro p e s m below meth c A ls hx hb hml hr hown hts hlocks hK hP hD hS hA hl
  have hl : lv_has ls 2 [(0, .ref (hM 0))] := hl
  have hown : s.vm.findClass RX9 = some m.cls := hown
  have hG : ∀ w ∈ wG, w ∈ ww_X9_lengths := fun w h => List.mem_cons_of_mem _ h
  have hi9 : ∀ w ∈ wsX90, w ∈ ww_X9_lengths := fun w h => List.mem_cons_of_mem _ (z_inX9 w h)
  have L2 : ∀  (n : Nat) (l1 : Int32) (M : zMm) (o1 : Int32) (oM : zMm), L_X9_lengths_2  n l1 M = some (o1, oM) → zAt p l e ({ frames := 2, cells := 0, slots := 0, locals := 46 } : Room) s m [.ref (hM 0)].toArray below meth c (MQ below (zQv D cI cB (w9 cI cB hM M0) A) [.ref (hM 0)].toArray s 0 0 A) A D 2 (w9 cI cB hM oM) [(0, .ref (hM 0)), (1, .int o1)] 44 [] → zAt p l e ({ frames := 2, cells := 0, slots := 0, locals := 46 } : Room) s m [.ref (hM 0)].toArray below meth c (MQ below (zQv D cI cB (w9 cI cB hM M0) A) [.ref (hM 0)].toArray s 0 0 A) A D 2 (w9 cI cB hM M) [(0, .ref (hM 0)), (1, .int l1)] 2 [] := by
    intro n
    induction n with
    | zero => intro l1 M o1 oM hf; simp [L_X9_lengths_2] at hf
    | succ n ih =>
      intro l1 M o1 oM hf hk H locs ls hP hD hS hl
      rw [L_X9_lengths_2] at hf
      refine lv_iload_n hx hb dX9_lengths_2 rfl (lv_at hl 1 rfl) ?_
      refine lv_aload_n hx hb dX9_lengths_3 rfl (lv_at hl 0 rfl) ?_
      refine va_get (D := D) (ci := 9) (v := .ref (hM 5)) (C := RX9) (T := TX9) (N := 23) hx hb hts hi9 hown hK hP 0 rfl rfl 6 (Nat.le_of_ble_eq_true rfl) (hts _ (List.mem_cons_of_mem _ wd_658)) (fun _ h9 => h9) rfl dX9_lengths_4 ?_
      refine lv_iconst (v := 0) hx hb dX9_lengths_7 (by decide) ?_
      refine va_iald (n := 2) (f := M 6) (cA := cI) hx hb hK hP 5 0 rfl rfl (z_in (by decide)) dX9_lengths_8 ?_
      refine z_tc (k := 0) (by decide) ?_
      refine lv_icmp_ge (tgt := 44) hx hb dX9_lengths_9 (by decide) (fun c_1 => ?_) (fun c_1 => ?_)
      · replace hf := zit c_1 hf
        cases hf
        exact hk _ _ _ hP hD hS (lv_sub hl [0, 1] rfl)
      · replace hf := zif c_1 hf
        refine lv_aload_n hx hb dX9_lengths_12 rfl (lv_at hl 0 rfl) ?_
        refine va_get (D := D) (ci := 9) (v := .ref (hM 14)) (C := RX9) (T := TX9) (N := 23) hx hb hts hi9 hown hK hP 0 rfl rfl 19 (Nat.le_of_ble_eq_true rfl) (hts _ (List.mem_cons_of_mem _ wd_671)) (fun _ h9 => h9) rfl dX9_lengths_13 ?_
        refine lv_iload_n hx hb dX9_lengths_16 rfl (lv_at hl 1 rfl) ?_
        refine lv_aload_n hx hb dX9_lengths_17 rfl (lv_at hl 0 rfl) ?_
        refine lv_iload_n hx hb dX9_lengths_18 rfl (lv_at hl 1 rfl) ?_
        refine lv_aload_n hx hb dX9_lengths_19 rfl (lv_at hl 0 rfl) ?_
        refine lv_iload_n hx hb dX9_lengths_20 rfl (lv_at hl 1 rfl) ?_
        obtain ⟨r2, hq3, hf⟩ := zb1_some hf
        refine zcallVi (ws2 := (w9 cI cB hM M)) (rest := [.int l1, .ref (hM 0), .int l1, .ref (hM 14)]) ⟨hx, hb, hml, hown, hts⟩ (c_X9_slipNow l D cI cB hM M l1 r2 hq3) (cwV 1 hts (z_gV hG wd_778 wd_780 wd_s28 wd_15 wd_781) rfl rfl rfl q_X9_slipNow ⟨Nat.le_of_ble_eq_true rfl, Nat.le_of_ble_eq_true rfl⟩) hK hP hD hS hA 9 rfl rfl rfl [0, 2, 9] [1, 3, 4, 5, 6, 7, 8, 10, 11, 12, 13, 14, 15, 16, 17] rfl rfl rfl rfl rfl rfl rfl hl.1 (Nat.le_of_ble_eq_true rfl) dX9_lengths_21 ⟨Nat.zero_le _, Nat.zero_le _⟩ rfl (fun H locs hP hD hS => ?_)
        obtain ⟨r4, hq5, hf⟩ := zb1_some hf
        refine zcallVi (ws2 := (w9 cI cB hM M)) (rest := [.int l1, .ref (hM 14)]) ⟨hx, hb, hml, hown, hts⟩ (c_X9_cutOf l D cI cB hM M l1 r2 r4 hq5) (cwV 2 hts (z_gV hG wd_789 wd_791 wd_s29 wd_15 wd_792) rfl rfl rfl q_X9_cutOf ⟨Nat.le_of_ble_eq_true rfl, Nat.le_of_ble_eq_true rfl⟩) hK hP hD hS hA 9 rfl rfl rfl [0, 4, 6] [1, 2, 3, 5, 7, 8, 9, 10, 11, 12, 13, 14, 15, 16, 17] rfl rfl rfl rfl rfl rfl rfl hl.1 (Nat.le_of_ble_eq_true rfl) dX9_lengths_24 ⟨Nat.zero_le _, Nat.zero_le _⟩ rfl (fun H locs hP hD hS => ?_)
        refine lv_aload_n hx hb dX9_lengths_27 rfl (lv_at hl 0 rfl) ?_
        refine va_get (D := D) (ci := 9) (v := .ref (hM 9)) (C := RX9) (T := TX9) (N := 23) hx hb hts hi9 hown hK hP 0 rfl rfl 10 (Nat.le_of_ble_eq_true rfl) (hts _ (List.mem_cons_of_mem _ wd_662)) (fun _ h9 => h9) rfl dX9_lengths_28 ?_
        refine lv_bipush (v := 7) hx hb dX9_lengths_31 (by decide) ?_
        refine lv_iload_n hx hb dX9_lengths_33 rfl (lv_at hl 1 rfl) ?_
        refine lv_iadd hx hb dX9_lengths_34 ?_
        obtain ⟨i_v6, v6, e_v6, hf⟩ := zl_some hf
        refine va_iald (n := 154) (f := M 10) (cA := cI) hx hb hK hP 9 0 rfl rfl i_v6 dX9_lengths_35 ?_
        refine zt e_v6 ?_
        refine lv_iadd hx hb dX9_lengths_36 ?_
        obtain ⟨i_M_7, M_7, e_M_7, hf⟩ := zw_some hf
        refine va_iast (n := 7) (f := M 19) (cA := cI) hx hb hK hP hD hS 14 0 rfl rfl i_M_7 dX9_lengths_37 (fun H locs hP hD hS => ?_)
        have hP : va_P D vwCl (w9 cI cB hM (zs M 19 (upd (M 19) l1.toNatClampNeg (r4 + v6)))) H := hP
        have hD : va_D A (w9 cI cB hM (zs M 19 (upd (M 19) l1.toNatClampNeg (r4 + v6)))) := hD
        rw [← e_M_7] at hP hD
        obtain ⟨x8, e_x8, hf⟩ := zv_some hf
        refine lv_iinc (v := x8) (lv' := [(1, .int x8), (0, .ref (hM 0))]) hx hb dX9_lengths_38 hl (k := 1) rfl (by rw [e_x8]; rfl) (by decide) rfl (fun ls hl => ?_)
        refine lv_goto (tgt := 2) hx hb dX9_lengths_41 (by decide) ?_
        exact ih _ _ _ _ hf hk _ _ _ hP hD hS (lv_sub hl [1, 0] rfl)
  unfold f_X9_lengths at hf
  refine lv_iconst (v := 0) hx hb dX9_lengths_0 (by decide) ?_
  refine lv_istore_n (lv' := [(1, .int 0), (0, .ref (hM 0))]) hx hb dX9_lengths_1 rfl hl (by decide) rfl (fun ls hl => ?_)
  obtain ⟨x9, M_10, hq11, hf⟩ := zb2_some hf
  refine L2 _ _ _ _ _ hq11 ?_ _ _ _ hP hD hS (lv_sub hl [1, 0] rfl)
  intro H locs ls hP hD hS hl
  cases hf
  exact zretV hx hb hr hlocks hK hP hD hS dX9_lengths_44
def f_X9_gapOf (M : zMm) (a1 : Int32) : Option (Int32) := zl 40 (M 9) ((2 : Int32) * a1) (fun v1 => zl 7 (M 19) v1 (fun v2 => zl 40 (M 9) (((2 : Int32) * a1) + 1) (fun v3 => zl 7 (M 19) v3 (fun v4 => zv (v2 - v4) (fun (x5 : Int32) => if (0 : Int32) ≤ x5 then some x5 else some (-x5))))))
abbrev ww_X9_gapOf : List Cond := Cond.code yX9_gapOf cX9_gapOf 3 (some .int) :: wG
theorem q_X9_gapOf : yX9_gapOf.cls = RX9 ∧ yX9_gapOf.cls ≠ "java/lang/invoke/MethodHandle" ∧ yX9_gapOf.cls ≠ "java/lang/invoke/VarHandle" ∧ (parseMethodDescriptor yX9_gapOf.desc).map (fun d => d.parameters.length) = some 1 := by decide +kernel
set_option maxHeartbeats 4000000 in
set_option maxRecDepth 100000 in
theorem c_X9_gapOf (l : Launch) (D : va_G) (cI cB : ClassId) (hM : Nat → Nat) (M : zMm) (a1 : Int32) (r0 : Int32) (hf : f_X9_gapOf M a1 = some r0) : zMi l yX9_gapOf ww_X9_gapOf ({ frames := 0, cells := 0, slots := 0, locals := 0 } : Room) D cI cB [.ref (hM 0), .int a1] [k9_0 cI cB hM M, k9_8 cI cB hM M, k9_14 cI cB hM M] r0 [k9_0 cI cB hM M, k9_8 cI cB hM M, k9_14 cI cB hM M] := by
  refine zofI (cc := cX9_gapOf) (maxL := 3) (ret := (some .int)) (by decide +kernel) rfl (Nat.le_of_ble_eq_true rfl) ?_
  intro p e s m below meth c A ls hx hb hml hr hown hts hlocks hK hP hD hS hA hl
  have hl : lv_has ls 3 [(0, .ref (hM 0)), (1, .int a1)] := hl
  have hown : s.vm.findClass RX9 = some m.cls := hown
  have hG : ∀ w ∈ wG, w ∈ ww_X9_gapOf := fun w h => List.mem_cons_of_mem _ h
  have hi9 : ∀ w ∈ wsX90, w ∈ ww_X9_gapOf := fun w h => List.mem_cons_of_mem _ (z_inX9 w h)
  unfold f_X9_gapOf at hf
  refine lv_aload_n hx hb dX9_gapOf_0 rfl (lv_at hl 0 rfl) ?_
  refine va_get (D := D) (ci := 9) (v := .ref (hM 14)) (C := RX9) (T := TX9) (N := 23) hx hb hts hi9 hown hK hP 0 rfl rfl 19 (Nat.le_of_ble_eq_true rfl) (hts _ (List.mem_cons_of_mem _ wd_671)) (fun _ h9 => h9) rfl dX9_gapOf_1 ?_
  refine lv_aload_n hx hb dX9_gapOf_4 rfl (lv_at hl 0 rfl) ?_
  refine va_get (D := D) (ci := 9) (v := .ref (hM 8)) (C := RX9) (T := TX9) (N := 23) hx hb hts hi9 hown hK hP 0 rfl rfl 9 (Nat.le_of_ble_eq_true rfl) (hts _ (List.mem_cons_of_mem _ wd_661)) (fun _ h9 => h9) rfl dX9_gapOf_5 ?_
  refine lv_iconst (v := 2) hx hb dX9_gapOf_8 (by decide) ?_
  refine lv_iload_n hx hb dX9_gapOf_9 rfl (lv_at hl 1 rfl) ?_
  refine lv_imul hx hb dX9_gapOf_10 ?_
  obtain ⟨i_v1, v1, e_v1, hf⟩ := zl_some hf
  refine va_iald (n := 40) (f := M 9) (cA := cI) hx hb hK hP 1 0 rfl rfl i_v1 dX9_gapOf_11 ?_
  refine zt e_v1 ?_
  obtain ⟨i_v2, v2, e_v2, hf⟩ := zl_some hf
  refine va_iald (n := 7) (f := M 19) (cA := cI) hx hb hK hP 2 0 rfl rfl i_v2 dX9_gapOf_12 ?_
  refine zt e_v2 ?_
  refine lv_aload_n hx hb dX9_gapOf_13 rfl (lv_at hl 0 rfl) ?_
  refine va_get (D := D) (ci := 9) (v := .ref (hM 14)) (C := RX9) (T := TX9) (N := 23) hx hb hts hi9 hown hK hP 0 rfl rfl 19 (Nat.le_of_ble_eq_true rfl) (hts _ (List.mem_cons_of_mem _ wd_671)) (fun _ h9 => h9) rfl dX9_gapOf_14 ?_
  refine lv_aload_n hx hb dX9_gapOf_17 rfl (lv_at hl 0 rfl) ?_
  refine va_get (D := D) (ci := 9) (v := .ref (hM 8)) (C := RX9) (T := TX9) (N := 23) hx hb hts hi9 hown hK hP 0 rfl rfl 9 (Nat.le_of_ble_eq_true rfl) (hts _ (List.mem_cons_of_mem _ wd_661)) (fun _ h9 => h9) rfl dX9_gapOf_18 ?_
  refine lv_iconst (v := 2) hx hb dX9_gapOf_21 (by decide) ?_
  refine lv_iload_n hx hb dX9_gapOf_22 rfl (lv_at hl 1 rfl) ?_
  refine lv_imul hx hb dX9_gapOf_23 ?_
  refine lv_iconst (v := 1) hx hb dX9_gapOf_24 (by decide) ?_
  refine lv_iadd hx hb dX9_gapOf_25 ?_
  obtain ⟨i_v3, v3, e_v3, hf⟩ := zl_some hf
  refine va_iald (n := 40) (f := M 9) (cA := cI) hx hb hK hP 1 0 rfl rfl i_v3 dX9_gapOf_26 ?_
  refine zt e_v3 ?_
  obtain ⟨i_v4, v4, e_v4, hf⟩ := zl_some hf
  refine va_iald (n := 7) (f := M 19) (cA := cI) hx hb hK hP 2 0 rfl rfl i_v4 dX9_gapOf_27 ?_
  refine zt e_v4 ?_
  refine lv_isub hx hb dX9_gapOf_28 ?_
  obtain ⟨x5, e_x5, hf⟩ := zv_some hf
  refine zt e_x5 ?_
  refine lv_istore_n (lv' := [(2, .int x5), (0, .ref (hM 0)), (1, .int a1)]) hx hb dX9_gapOf_29 rfl hl (by decide) rfl (fun ls hl => ?_)
  refine lv_iload_n hx hb dX9_gapOf_30 rfl (lv_at hl 0 rfl) ?_
  refine lv_if_ge (tgt := 39) hx hb dX9_gapOf_31 (by decide) (fun c_6 => ?_) (fun c_6 => ?_)
  · replace hf := zit c_6 hf
    refine lv_iload_n hx hb dX9_gapOf_39 rfl (lv_at hl 0 rfl) ?_
    cases hf
    exact zretI hx hb hr hlocks hK hP hD hS dX9_gapOf_40
  · replace hf := zif c_6 hf
    refine lv_iload_n hx hb dX9_gapOf_34 rfl (lv_at hl 0 rfl) ?_
    refine lv_ineg hx hb dX9_gapOf_35 ?_
    refine lv_goto (tgt := 40) hx hb dX9_gapOf_36 (by decide) ?_
    cases hf
    exact zretI hx hb hr hlocks hK hP hD hS dX9_gapOf_40
def L_X9_gaps_4 (M : zMm)  : Nat → Int32 → Int32 → Option (Int32 × Int32)
  | 0, _, _ => none
  | n + 1, l1, l2 => if (M 8 0) ≤ l2 then some (l1, l2) else zb1 (f_X9_gapOf M l2) (fun (r2 : Int32) => zv (l1 + r2) (fun (x4 : Int32) => zv (l2 + 1) (fun (x5 : Int32) => L_X9_gaps_4 M n x4 x5)))
def f_X9_gaps (M : zMm) : Option (Int32) := zb2 (L_X9_gaps_4 M 100000 0 0) (fun (x6 : Int32) (x7 : Int32) => some x6)
abbrev ww_X9_gaps : List Cond := Cond.code yX9_gaps cX9_gaps 3 (some .int) :: wG
theorem q_X9_gaps : yX9_gaps.cls = RX9 ∧ yX9_gaps.cls ≠ "java/lang/invoke/MethodHandle" ∧ yX9_gaps.cls ≠ "java/lang/invoke/VarHandle" ∧ (parseMethodDescriptor yX9_gaps.desc).map (fun d => d.parameters.length) = some 0 := by decide +kernel
set_option maxHeartbeats 4000000 in
set_option maxRecDepth 100000 in
theorem c_X9_gaps (l : Launch) (D : va_G) (cI cB : ClassId) (hM : Nat → Nat) (M : zMm) (r0 : Int32) (hf : f_X9_gaps M = some r0) : zMi l yX9_gaps ww_X9_gaps ({ frames := 1, cells := 0, slots := 0, locals := 22 } : Room) D cI cB [.ref (hM 0)] [k9_0 cI cB hM M, k9_7 cI cB hM M, k9_8 cI cB hM M, k9_14 cI cB hM M] r0 [k9_0 cI cB hM M, k9_7 cI cB hM M, k9_8 cI cB hM M, k9_14 cI cB hM M] := by
  refine zofI (cc := cX9_gaps) (maxL := 3) (ret := (some .int)) (by decide +kernel) rfl (Nat.le_of_ble_eq_true rfl) ?_
  intro p e s m below meth c A ls hx hb hml hr hown hts hlocks hK hP hD hS hA hl
  have hl : lv_has ls 3 [(0, .ref (hM 0))] := hl
  have hown : s.vm.findClass RX9 = some m.cls := hown
  have hG : ∀ w ∈ wG, w ∈ ww_X9_gaps := fun w h => List.mem_cons_of_mem _ h
  have hi9 : ∀ w ∈ wsX90, w ∈ ww_X9_gaps := fun w h => List.mem_cons_of_mem _ (z_inX9 w h)
  have L4 : ∀ (M : zMm)  (n : Nat) (l1 : Int32) (l2 : Int32) (o1 : Int32) (o2 : Int32), L_X9_gaps_4 M n l1 l2 = some (o1, o2) → zAt p l e ({ frames := 1, cells := 0, slots := 0, locals := 22 } : Room) s m [.ref (hM 0)].toArray below meth c (MQ below (zQi D cI cB r0 [k9_0 cI cB hM M, k9_7 cI cB hM M, k9_8 cI cB hM M, k9_14 cI cB hM M] A) [.ref (hM 0)].toArray s 0 0 A) A D 3 [k9_0 cI cB hM M, k9_7 cI cB hM M, k9_8 cI cB hM M, k9_14 cI cB hM M] [(0, .ref (hM 0)), (1, .int o1), (2, .int o2)] 28 [] → zAt p l e ({ frames := 1, cells := 0, slots := 0, locals := 22 } : Room) s m [.ref (hM 0)].toArray below meth c (MQ below (zQi D cI cB r0 [k9_0 cI cB hM M, k9_7 cI cB hM M, k9_8 cI cB hM M, k9_14 cI cB hM M] A) [.ref (hM 0)].toArray s 0 0 A) A D 3 [k9_0 cI cB hM M, k9_7 cI cB hM M, k9_8 cI cB hM M, k9_14 cI cB hM M] [(0, .ref (hM 0)), (1, .int l1), (2, .int l2)] 4 [] := by
    intro M n
    induction n with
    | zero => intro l1 l2 o1 o2 hf; simp [L_X9_gaps_4] at hf
    | succ n ih =>
      intro l1 l2 o1 o2 hf hk H locs ls hP hD hS hl
      rw [L_X9_gaps_4] at hf
      refine lv_iload_n hx hb dX9_gaps_4 rfl (lv_at hl 2 rfl) ?_
      refine lv_aload_n hx hb dX9_gaps_5 rfl (lv_at hl 0 rfl) ?_
      refine va_get (D := D) (ci := 9) (v := .ref (hM 7)) (C := RX9) (T := TX9) (N := 23) hx hb hts hi9 hown hK hP 0 rfl rfl 8 (Nat.le_of_ble_eq_true rfl) (hts _ (List.mem_cons_of_mem _ wd_660)) (fun _ h9 => h9) rfl dX9_gaps_6 ?_
      refine lv_iconst (v := 0) hx hb dX9_gaps_9 (by decide) ?_
      refine va_iald (n := 2) (f := M 8) (cA := cI) hx hb hK hP 1 0 rfl rfl (z_in (by decide)) dX9_gaps_10 ?_
      refine z_tc (k := 0) (by decide) ?_
      refine lv_icmp_ge (tgt := 28) hx hb dX9_gaps_11 (by decide) (fun c_1 => ?_) (fun c_1 => ?_)
      · replace hf := zit c_1 hf
        cases hf
        exact hk _ _ _ hP hD hS (lv_sub hl [0, 1, 2] rfl)
      · replace hf := zif c_1 hf
        refine lv_iload_n hx hb dX9_gaps_14 rfl (lv_at hl 1 rfl) ?_
        refine lv_aload_n hx hb dX9_gaps_15 rfl (lv_at hl 0 rfl) ?_
        refine lv_iload_n hx hb dX9_gaps_16 rfl (lv_at hl 2 rfl) ?_
        obtain ⟨r2, hq3, hf⟩ := zb1_some hf
        refine zcallVi (ws2 := [k9_0 cI cB hM M, k9_7 cI cB hM M, k9_8 cI cB hM M, k9_14 cI cB hM M]) (rest := [.int l1]) ⟨hx, hb, hml, hown, hts⟩ (c_X9_gapOf l D cI cB hM M l2 r2 hq3) (cwV 1 hts (z_gV hG wd_806 wd_808 wd_s32 wd_15 wd_809) rfl rfl rfl q_X9_gapOf ⟨Nat.le_of_ble_eq_true rfl, Nat.le_of_ble_eq_true rfl⟩) hK hP hD hS hA 9 rfl rfl rfl [0, 2, 3] [1] rfl rfl rfl rfl rfl rfl rfl hl.1 (Nat.le_of_ble_eq_true rfl) dX9_gaps_17 ⟨Nat.zero_le _, Nat.zero_le _⟩ rfl (fun H locs hP hD hS => ?_)
        refine lv_iadd hx hb dX9_gaps_20 ?_
        obtain ⟨x4, e_x4, hf⟩ := zv_some hf
        refine zt e_x4 ?_
        refine lv_istore_n (lv' := [(1, .int x4), (0, .ref (hM 0)), (2, .int l2)]) hx hb dX9_gaps_21 rfl hl (by decide) rfl (fun ls hl => ?_)
        obtain ⟨x5, e_x5, hf⟩ := zv_some hf
        refine lv_iinc (v := x5) (lv' := [(2, .int x5), (1, .int x4), (0, .ref (hM 0))]) hx hb dX9_gaps_22 hl (k := 2) rfl (by rw [e_x5]; rfl) (by decide) rfl (fun ls hl => ?_)
        refine lv_goto (tgt := 4) hx hb dX9_gaps_25 (by decide) ?_
        exact ih _ _ _ _ hf hk _ _ _ hP hD hS (lv_sub hl [2, 1, 0] rfl)
  unfold f_X9_gaps at hf
  refine lv_iconst (v := 0) hx hb dX9_gaps_0 (by decide) ?_
  refine lv_istore_n (lv' := [(1, .int 0), (0, .ref (hM 0))]) hx hb dX9_gaps_1 rfl hl (by decide) rfl (fun ls hl => ?_)
  refine lv_iconst (v := 0) hx hb dX9_gaps_2 (by decide) ?_
  refine lv_istore_n (lv' := [(2, .int 0), (1, .int 0), (0, .ref (hM 0))]) hx hb dX9_gaps_3 rfl hl (by decide) rfl (fun ls hl => ?_)
  obtain ⟨x6, x7, hq8, hf⟩ := zb2_some hf
  refine L4 _ _ _ _ _ _ hq8 ?_ _ _ _ hP hD hS (lv_sub hl [2, 1, 0] rfl)
  intro H locs ls hP hD hS hl
  refine lv_iload_n hx hb dX9_gaps_28 rfl (lv_at hl 1 rfl) ?_
  cases hf
  exact zretI hx hb hr hlocks hK hP hD hS dX9_gaps_29
def L_X9_isClosed_4 (M : zMm)  : Nat → Int32 → Int32 → Option (Int32 × Int32)
  | 0, _, _ => none
  | n + 1, l1, l2 => if (M 8 0) ≤ l2 then some (l1, l2) else zb1 (if l1 = 0 then some (0 : Int32) else zb1 (f_X9_gapOf M l2) (fun (r6 : Int32) => if (M 3 0) < r6 then some (0 : Int32) else some (1 : Int32))) (fun (y3 : Int32) => zv (l2 + 1) (fun (x9 : Int32) => L_X9_isClosed_4 M n y3 x9))
def f_X9_isClosed (M : zMm) : Option (Int32) := zb2 (L_X9_isClosed_4 M 100000 1 0) (fun (x10 : Int32) (x11 : Int32) => zo x10 (some x10))
abbrev ww_X9_isClosed : List Cond := Cond.code yX9_isClosed cX9_isClosed 3 (some .boolean) :: wG
theorem q_X9_isClosed : yX9_isClosed.cls = RX9 ∧ yX9_isClosed.cls ≠ "java/lang/invoke/MethodHandle" ∧ yX9_isClosed.cls ≠ "java/lang/invoke/VarHandle" ∧ (parseMethodDescriptor yX9_isClosed.desc).map (fun d => d.parameters.length) = some 0 := by decide +kernel
set_option maxHeartbeats 4000000 in
set_option maxRecDepth 100000 in
theorem c_X9_isClosed (l : Launch) (D : va_G) (cI cB : ClassId) (hM : Nat → Nat) (M : zMm) (r0 : Int32) (hf : f_X9_isClosed M = some r0) : zMi l yX9_isClosed ww_X9_isClosed ({ frames := 1, cells := 0, slots := 0, locals := 22 } : Room) D cI cB [.ref (hM 0)] [k9_0 cI cB hM M, k9_2 cI cB hM M, k9_7 cI cB hM M, k9_8 cI cB hM M, k9_14 cI cB hM M] r0 [k9_0 cI cB hM M, k9_2 cI cB hM M, k9_7 cI cB hM M, k9_8 cI cB hM M, k9_14 cI cB hM M] := by
  refine zofI (cc := cX9_isClosed) (maxL := 3) (ret := (some .boolean)) (by decide +kernel) rfl (Nat.le_of_ble_eq_true rfl) ?_
  intro p e s m below meth c A ls hx hb hml hr hown hts hlocks hK hP hD hS hA hl
  have hl : lv_has ls 3 [(0, .ref (hM 0))] := hl
  have hown : s.vm.findClass RX9 = some m.cls := hown
  have hG : ∀ w ∈ wG, w ∈ ww_X9_isClosed := fun w h => List.mem_cons_of_mem _ h
  have hi9 : ∀ w ∈ wsX90, w ∈ ww_X9_isClosed := fun w h => List.mem_cons_of_mem _ (z_inX9 w h)
  have L4 : ∀ (M : zMm)  (n : Nat) (l1 : Int32) (l2 : Int32) (o1 : Int32) (o2 : Int32), L_X9_isClosed_4 M n l1 l2 = some (o1, o2) → zAt p l e ({ frames := 1, cells := 0, slots := 0, locals := 22 } : Room) s m [.ref (hM 0)].toArray below meth c (MQ below (zQi D cI cB r0 [k9_0 cI cB hM M, k9_2 cI cB hM M, k9_7 cI cB hM M, k9_8 cI cB hM M, k9_14 cI cB hM M] A) [.ref (hM 0)].toArray s 0 0 A) A D 3 [k9_0 cI cB hM M, k9_2 cI cB hM M, k9_7 cI cB hM M, k9_8 cI cB hM M, k9_14 cI cB hM M] [(0, .ref (hM 0)), (1, .int o1), (2, .int o2)] 44 [] → zAt p l e ({ frames := 1, cells := 0, slots := 0, locals := 22 } : Room) s m [.ref (hM 0)].toArray below meth c (MQ below (zQi D cI cB r0 [k9_0 cI cB hM M, k9_2 cI cB hM M, k9_7 cI cB hM M, k9_8 cI cB hM M, k9_14 cI cB hM M] A) [.ref (hM 0)].toArray s 0 0 A) A D 3 [k9_0 cI cB hM M, k9_2 cI cB hM M, k9_7 cI cB hM M, k9_8 cI cB hM M, k9_14 cI cB hM M] [(0, .ref (hM 0)), (1, .int l1), (2, .int l2)] 4 [] := by
    intro M n
    induction n with
    | zero => intro l1 l2 o1 o2 hf; simp [L_X9_isClosed_4] at hf
    | succ n ih =>
      intro l1 l2 o1 o2 hf hk H locs ls hP hD hS hl
      rw [L_X9_isClosed_4] at hf
      refine lv_iload_n hx hb dX9_isClosed_4 rfl (lv_at hl 2 rfl) ?_
      refine lv_aload_n hx hb dX9_isClosed_5 rfl (lv_at hl 0 rfl) ?_
      refine va_get (D := D) (ci := 9) (v := .ref (hM 7)) (C := RX9) (T := TX9) (N := 23) hx hb hts hi9 hown hK hP 0 rfl rfl 8 (Nat.le_of_ble_eq_true rfl) (hts _ (List.mem_cons_of_mem _ wd_660)) (fun _ h9 => h9) rfl dX9_isClosed_6 ?_
      refine lv_iconst (v := 0) hx hb dX9_isClosed_9 (by decide) ?_
      refine va_iald (n := 2) (f := M 8) (cA := cI) hx hb hK hP 2 0 rfl rfl (z_in (by decide)) dX9_isClosed_10 ?_
      refine z_tc (k := 0) (by decide) ?_
      refine lv_icmp_ge (tgt := 44) hx hb dX9_isClosed_11 (by decide) (fun c_1 => ?_) (fun c_1 => ?_)
      · replace hf := zit c_1 hf
        cases hf
        exact hk _ _ _ hP hD hS (lv_sub hl [0, 1, 2] rfl)
      · replace hf := zif c_1 hf
        refine lv_iload_n hx hb dX9_isClosed_14 rfl (lv_at hl 1 rfl) ?_
        obtain ⟨y3, hq4, hf⟩ := zb1_some hf
        have J5 : zAt p l e ({ frames := 1, cells := 0, slots := 0, locals := 22 } : Room) s m [.ref (hM 0)].toArray below meth c (MQ below (zQi D cI cB r0 [k9_0 cI cB hM M, k9_2 cI cB hM M, k9_7 cI cB hM M, k9_8 cI cB hM M, k9_14 cI cB hM M] A) [.ref (hM 0)].toArray s 0 0 A) A D 3 [k9_0 cI cB hM M, k9_2 cI cB hM M, k9_7 cI cB hM M, k9_8 cI cB hM M, k9_14 cI cB hM M] [(0, .ref (hM 0)), (1, .int l1), (2, .int l2)] 37 [.int y3] := by
          intro H locs ls hP hD hS hl
          refine lv_istore_n (lv' := [(1, .int y3), (0, .ref (hM 0)), (2, .int l2)]) hx hb dX9_isClosed_37 rfl hl (by decide) rfl (fun ls hl => ?_)
          obtain ⟨x9, e_x9, hf⟩ := zv_some hf
          refine lv_iinc (v := x9) (lv' := [(2, .int x9), (1, .int y3), (0, .ref (hM 0))]) hx hb dX9_isClosed_38 hl (k := 2) rfl (by rw [e_x9]; rfl) (by decide) rfl (fun ls hl => ?_)
          refine lv_goto (tgt := 4) hx hb dX9_isClosed_41 (by decide) ?_
          exact ih _ _ _ _ hf hk _ _ _ hP hD hS (lv_sub hl [2, 1, 0] rfl)
        replace hf := hq4
        refine lv_if_eq (tgt := 36) hx hb dX9_isClosed_15 (by decide) (fun c_2 => ?_) (fun c_2 => ?_)
        · replace hf := zit c_2 hf
          refine lv_iconst (v := 0) hx hb dX9_isClosed_36 (by decide) ?_
          cases hf
          exact J5 _ _ _ hP hD hS (lv_sub hl [0, 1, 2] rfl)
        · replace hf := zif c_2 hf
          refine lv_aload_n hx hb dX9_isClosed_18 rfl (lv_at hl 0 rfl) ?_
          refine lv_iload_n hx hb dX9_isClosed_19 rfl (lv_at hl 2 rfl) ?_
          obtain ⟨r6, hq7, hf⟩ := zb1_some hf
          refine zcallVi (ws2 := [k9_0 cI cB hM M, k9_2 cI cB hM M, k9_7 cI cB hM M, k9_8 cI cB hM M, k9_14 cI cB hM M]) (rest := []) ⟨hx, hb, hml, hown, hts⟩ (c_X9_gapOf l D cI cB hM M l2 r6 hq7) (cwV 1 hts (z_gV hG wd_806 wd_808 wd_s32 wd_15 wd_809) rfl rfl rfl q_X9_gapOf ⟨Nat.le_of_ble_eq_true rfl, Nat.le_of_ble_eq_true rfl⟩) hK hP hD hS hA 9 rfl rfl rfl [0, 3, 4] [1, 2] rfl rfl rfl rfl rfl rfl rfl hl.1 (Nat.le_of_ble_eq_true rfl) dX9_isClosed_20 ⟨Nat.zero_le _, Nat.zero_le _⟩ rfl (fun H locs hP hD hS => ?_)
          refine lv_aload_n hx hb dX9_isClosed_23 rfl (lv_at hl 0 rfl) ?_
          refine va_get (D := D) (ci := 9) (v := .ref (hM 2)) (C := RX9) (T := TX9) (N := 23) hx hb hts hi9 hown hK hP 0 rfl rfl 3 (Nat.le_of_ble_eq_true rfl) (hts _ (List.mem_cons_of_mem _ wd_655)) (fun _ h9 => h9) rfl dX9_isClosed_24 ?_
          refine lv_iconst (v := 0) hx hb dX9_isClosed_27 (by decide) ?_
          refine va_iald (n := 6) (f := M 3) (cA := cI) hx hb hK hP 1 0 rfl rfl (z_in (by decide)) dX9_isClosed_28 ?_
          refine z_tc (k := 0) (by decide) ?_
          refine lv_icmp_gt (tgt := 36) hx hb dX9_isClosed_29 (by decide) (fun c_8 => ?_) (fun c_8 => ?_)
          · replace hf := zit c_8 hf
            refine lv_iconst (v := 0) hx hb dX9_isClosed_36 (by decide) ?_
            cases hf
            exact J5 _ _ _ hP hD hS (lv_sub hl [0, 1, 2] rfl)
          · replace hf := zif c_8 hf
            refine lv_iconst (v := 1) hx hb dX9_isClosed_32 (by decide) ?_
            refine lv_goto (tgt := 37) hx hb dX9_isClosed_33 (by decide) ?_
            cases hf
            exact J5 _ _ _ hP hD hS (lv_sub hl [0, 1, 2] rfl)
  unfold f_X9_isClosed at hf
  refine lv_iconst (v := 1) hx hb dX9_isClosed_0 (by decide) ?_
  refine lv_istore_n (lv' := [(1, .int 1), (0, .ref (hM 0))]) hx hb dX9_isClosed_1 rfl hl (by decide) rfl (fun ls hl => ?_)
  refine lv_iconst (v := 0) hx hb dX9_isClosed_2 (by decide) ?_
  refine lv_istore_n (lv' := [(2, .int 0), (1, .int 1), (0, .ref (hM 0))]) hx hb dX9_isClosed_3 rfl hl (by decide) rfl (fun ls hl => ?_)
  obtain ⟨x10, x11, hq12, hf⟩ := zb2_some hf
  refine L4 _ _ _ _ _ _ hq12 ?_ _ _ _ hP hD hS (lv_sub hl [2, 1, 0] rfl)
  intro H locs ls hP hD hS hl
  refine lv_iload_n hx hb dX9_isClosed_44 rfl (lv_at hl 1 rfl) ?_
  obtain ⟨hn, hf⟩ := zo_some hf
  cases hf
  exact zretB hx hb hr hlocks hn hK hP hD hS dX9_isClosed_45
def f_X9_part (M : zMm) (a1 : Int32) (a2 : Int32) : Option (Int32) := zb1 (f_X9_isPart M a1) (fun (r1 : Int32) => if r1 = 0 then some ((-1) : Int32) else zb1 (f_X9_in (a2.toInt64) 0 6) (fun (r4 : Int32) => if r4 = 0 then some ((-1) : Int32) else if a2 = 3 then zb1 (f_X9_placeOf M a1) (fun (r8 : Int32) => some r8) else if a2 = 4 then zb1 (f_X9_slipNow M a1) (fun (r11 : Int32) => some (r11 + 100)) else if a2 = 5 then zb1 (f_X9_slipNow M a1) (fun (r14 : Int32) => zb1 (f_X9_cutOf M a1 r14) (fun (r16 : Int32) => some r16)) else if a2 = 6 then zb1 (f_X9_slipNow M a1) (fun (r19 : Int32) => zb1 (f_X9_cutOf M a1 r19) (fun (r21 : Int32) => zl 154 (M 10) ((7 : Int32) + a1) (fun v23 => some (r21 + v23)))) else zl 42 (M 7) (((3 : Int32) * a1) + a2) (fun v24 => some v24)))
abbrev ww_X9_part : List Cond := Cond.code yX9_part cX9_part 3 (some .int) :: wG
theorem q_X9_part : yX9_part.cls = RX9 ∧ yX9_part.cls ≠ "java/lang/invoke/MethodHandle" ∧ yX9_part.cls ≠ "java/lang/invoke/VarHandle" ∧ (parseMethodDescriptor yX9_part.desc).map (fun d => d.parameters.length) = some 2 := by decide +kernel
set_option maxHeartbeats 4000000 in
set_option maxRecDepth 100000 in
theorem c_X9_part (l : Launch) (D : va_G) (cI cB : ClassId) (hM : Nat → Nat) (M : zMm) (a1 : Int32) (a2 : Int32) (r0 : Int32) (hf : f_X9_part M a1 a2 = some r0) : zMi l yX9_part ww_X9_part ({ frames := 2, cells := 0, slots := 0, locals := 46 } : Room) D cI cB [.ref (hM 0), .int a1, .int a2] [k9_0 cI cB hM M, k9_2 cI cB hM M, k9_4 cI cB hM M, k9_5 cI cB hM M, k9_6 cI cB hM M, k9_9 cI cB hM M] r0 [k9_0 cI cB hM M, k9_2 cI cB hM M, k9_4 cI cB hM M, k9_5 cI cB hM M, k9_6 cI cB hM M, k9_9 cI cB hM M] := by
  refine zofI (cc := cX9_part) (maxL := 3) (ret := (some .int)) (by decide +kernel) rfl (Nat.le_of_ble_eq_true rfl) ?_
  intro p e s m below meth c A ls hx hb hml hr hown hts hlocks hK hP hD hS hA hl
  have hl : lv_has ls 3 [(0, .ref (hM 0)), (1, .int a1), (2, .int a2)] := hl
  have hown : s.vm.findClass RX9 = some m.cls := hown
  have hG : ∀ w ∈ wG, w ∈ ww_X9_part := fun w h => List.mem_cons_of_mem _ h
  have hi9 : ∀ w ∈ wsX90, w ∈ ww_X9_part := fun w h => List.mem_cons_of_mem _ (z_inX9 w h)
  unfold f_X9_part at hf
  refine lv_aload_n hx hb dX9_part_0 rfl (lv_at hl 0 rfl) ?_
  refine lv_iload_n hx hb dX9_part_1 rfl (lv_at hl 1 rfl) ?_
  obtain ⟨r1, hq2, hf⟩ := zb1_some hf
  refine zcallVi (ws2 := [k9_0 cI cB hM M, k9_2 cI cB hM M, k9_4 cI cB hM M, k9_5 cI cB hM M, k9_6 cI cB hM M, k9_9 cI cB hM M]) (rest := []) ⟨hx, hb, hml, hown, hts⟩ (c_X9_isPart l D cI cB hM M a1 r1 hq2) (cwV 1 hts (z_gV hG wd_769 wd_771 wd_s26 wd_15 wd_772) rfl rfl rfl q_X9_isPart ⟨Nat.le_of_ble_eq_true rfl, Nat.le_of_ble_eq_true rfl⟩) hK hP hD hS hA 9 rfl rfl rfl [0, 3] [1, 2, 4, 5] rfl rfl rfl rfl rfl rfl rfl hl.1 (Nat.le_of_ble_eq_true rfl) dX9_part_2 ⟨Nat.zero_le _, Nat.zero_le _⟩ rfl (fun H locs hP hD hS => ?_)
  refine lv_if_eq (tgt := 20) hx hb dX9_part_5 (by decide) (fun c_3 => ?_) (fun c_3 => ?_)
  · replace hf := zit c_3 hf
    refine lv_iconst (v := (-1)) hx hb dX9_part_20 (by decide) ?_
    cases hf
    exact zretI hx hb hr hlocks hK hP hD hS dX9_part_21
  · replace hf := zif c_3 hf
    refine lv_iload_n hx hb dX9_part_8 rfl (lv_at hl 2 rfl) ?_
    refine lv_i2l hx hb dX9_part_9 rfl ?_
    refine lv_lconst (v := 0) hx hb dX9_part_10 (by decide) ?_
    refine lv_ldc2 (v := 6) hx hb hown (hts _ (List.mem_cons_of_mem _ wd_773)) dX9_part_11 ?_
    obtain ⟨r4, hq5, hf⟩ := zb1_some hf
    refine zcallSi (rest := []) ⟨hx, hb, hml, hown, hts⟩ (c_X9_in l D cI cB (a2.toInt64) 0 6 r4 hq5) (z_cwS 3 hts (z_gS hG wd_727 wd_728 wd_15 wd_729) rfl rfl rfl q_X9_in ⟨Nat.le_of_ble_eq_true rfl, Nat.le_of_ble_eq_true rfl⟩) hK hP hD hS hA rfl hl.1 (Nat.le_of_ble_eq_true rfl) dX9_part_14 ⟨Nat.zero_le _, Nat.zero_le _⟩ rfl (fun H locs hP hD hS => ?_)
    refine lv_if_ne (tgt := 22) hx hb dX9_part_17 (by decide) (fun c_6 => ?_) (fun c_6 => ?_)
    · replace hf := zif c_6 hf
      refine lv_iload_n hx hb dX9_part_22 rfl (lv_at hl 2 rfl) ?_
      by_cases c_7 : a2 = 3
      · replace hf := zit c_7 hf
        refine zt c_7.symm ?_
        refine lv_tableIn (tgt := 52) hx hb dX9_part_23 (by decide) (by decide) rfl (by decide) ?_
        refine lv_aload_n hx hb dX9_part_52 rfl (lv_at hl 0 rfl) ?_
        refine lv_iload_n hx hb dX9_part_53 rfl (lv_at hl 1 rfl) ?_
        obtain ⟨r8, hq9, hf⟩ := zb1_some hf
        refine zcallVi (ws2 := [k9_0 cI cB hM M, k9_2 cI cB hM M, k9_4 cI cB hM M, k9_5 cI cB hM M, k9_6 cI cB hM M, k9_9 cI cB hM M]) (rest := []) ⟨hx, hb, hml, hown, hts⟩ (c_X9_placeOf l D cI cB hM M a1 r8 hq9) (cwV 1 hts (z_gV hG wd_774 wd_776 wd_s27 wd_15 wd_777) rfl rfl rfl q_X9_placeOf ⟨Nat.le_of_ble_eq_true rfl, Nat.le_of_ble_eq_true rfl⟩) hK hP hD hS hA 9 rfl rfl rfl [0, 5] [1, 2, 3, 4] rfl rfl rfl rfl rfl rfl rfl hl.1 (Nat.le_of_ble_eq_true rfl) dX9_part_54 ⟨Nat.zero_le _, Nat.zero_le _⟩ rfl (fun H locs hP hD hS => ?_)
        cases hf
        exact zretI hx hb hr hlocks hK hP hD hS dX9_part_57
      · replace hf := zif c_7 hf
        by_cases c_10 : a2 = 4
        · replace hf := zit c_10 hf
          refine zt c_10.symm ?_
          refine lv_tableIn (tgt := 58) hx hb dX9_part_23 (by decide) (by decide) rfl (by decide) ?_
          refine lv_aload_n hx hb dX9_part_58 rfl (lv_at hl 0 rfl) ?_
          refine lv_iload_n hx hb dX9_part_59 rfl (lv_at hl 1 rfl) ?_
          obtain ⟨r11, hq12, hf⟩ := zb1_some hf
          refine zcallVi (ws2 := [k9_0 cI cB hM M, k9_2 cI cB hM M, k9_4 cI cB hM M, k9_5 cI cB hM M, k9_6 cI cB hM M, k9_9 cI cB hM M]) (rest := []) ⟨hx, hb, hml, hown, hts⟩ (c_X9_slipNow l D cI cB hM M a1 r11 hq12) (cwV 1 hts (z_gV hG wd_778 wd_780 wd_s28 wd_15 wd_781) rfl rfl rfl q_X9_slipNow ⟨Nat.le_of_ble_eq_true rfl, Nat.le_of_ble_eq_true rfl⟩) hK hP hD hS hA 9 rfl rfl rfl [0, 1, 5] [2, 3, 4] rfl rfl rfl rfl rfl rfl rfl hl.1 (Nat.le_of_ble_eq_true rfl) dX9_part_60 ⟨Nat.zero_le _, Nat.zero_le _⟩ rfl (fun H locs hP hD hS => ?_)
          refine lv_bipush (v := 100) hx hb dX9_part_63 (by decide) ?_
          refine lv_iadd hx hb dX9_part_65 ?_
          cases hf
          exact zretI hx hb hr hlocks hK hP hD hS dX9_part_66
        · replace hf := zif c_10 hf
          by_cases c_13 : a2 = 5
          · replace hf := zit c_13 hf
            refine zt c_13.symm ?_
            refine lv_tableIn (tgt := 67) hx hb dX9_part_23 (by decide) (by decide) rfl (by decide) ?_
            refine lv_aload_n hx hb dX9_part_67 rfl (lv_at hl 0 rfl) ?_
            refine lv_iload_n hx hb dX9_part_68 rfl (lv_at hl 1 rfl) ?_
            refine lv_aload_n hx hb dX9_part_69 rfl (lv_at hl 0 rfl) ?_
            refine lv_iload_n hx hb dX9_part_70 rfl (lv_at hl 1 rfl) ?_
            obtain ⟨r14, hq15, hf⟩ := zb1_some hf
            refine zcallVi (ws2 := [k9_0 cI cB hM M, k9_2 cI cB hM M, k9_4 cI cB hM M, k9_5 cI cB hM M, k9_6 cI cB hM M, k9_9 cI cB hM M]) (rest := [.int a1, .ref (hM 0)]) ⟨hx, hb, hml, hown, hts⟩ (c_X9_slipNow l D cI cB hM M a1 r14 hq15) (cwV 1 hts (z_gV hG wd_778 wd_780 wd_s28 wd_15 wd_781) rfl rfl rfl q_X9_slipNow ⟨Nat.le_of_ble_eq_true rfl, Nat.le_of_ble_eq_true rfl⟩) hK hP hD hS hA 9 rfl rfl rfl [0, 1, 5] [2, 3, 4] rfl rfl rfl rfl rfl rfl rfl hl.1 (Nat.le_of_ble_eq_true rfl) dX9_part_71 ⟨Nat.zero_le _, Nat.zero_le _⟩ rfl (fun H locs hP hD hS => ?_)
            obtain ⟨r16, hq17, hf⟩ := zb1_some hf
            refine zcallVi (ws2 := [k9_0 cI cB hM M, k9_2 cI cB hM M, k9_4 cI cB hM M, k9_5 cI cB hM M, k9_6 cI cB hM M, k9_9 cI cB hM M]) (rest := []) ⟨hx, hb, hml, hown, hts⟩ (c_X9_cutOf l D cI cB hM M a1 r14 r16 hq17) (cwV 2 hts (z_gV hG wd_789 wd_791 wd_s29 wd_15 wd_792) rfl rfl rfl q_X9_cutOf ⟨Nat.le_of_ble_eq_true rfl, Nat.le_of_ble_eq_true rfl⟩) hK hP hD hS hA 9 rfl rfl rfl [0, 2, 4] [1, 3, 5] rfl rfl rfl rfl rfl rfl rfl hl.1 (Nat.le_of_ble_eq_true rfl) dX9_part_74 ⟨Nat.zero_le _, Nat.zero_le _⟩ rfl (fun H locs hP hD hS => ?_)
            cases hf
            exact zretI hx hb hr hlocks hK hP hD hS dX9_part_77
          · replace hf := zif c_13 hf
            by_cases c_18 : a2 = 6
            · replace hf := zit c_18 hf
              refine zt c_18.symm ?_
              refine lv_tableIn (tgt := 78) hx hb dX9_part_23 (by decide) (by decide) rfl (by decide) ?_
              refine lv_aload_n hx hb dX9_part_78 rfl (lv_at hl 0 rfl) ?_
              refine lv_iload_n hx hb dX9_part_79 rfl (lv_at hl 1 rfl) ?_
              refine lv_aload_n hx hb dX9_part_80 rfl (lv_at hl 0 rfl) ?_
              refine lv_iload_n hx hb dX9_part_81 rfl (lv_at hl 1 rfl) ?_
              obtain ⟨r19, hq20, hf⟩ := zb1_some hf
              refine zcallVi (ws2 := [k9_0 cI cB hM M, k9_2 cI cB hM M, k9_4 cI cB hM M, k9_5 cI cB hM M, k9_6 cI cB hM M, k9_9 cI cB hM M]) (rest := [.int a1, .ref (hM 0)]) ⟨hx, hb, hml, hown, hts⟩ (c_X9_slipNow l D cI cB hM M a1 r19 hq20) (cwV 1 hts (z_gV hG wd_778 wd_780 wd_s28 wd_15 wd_781) rfl rfl rfl q_X9_slipNow ⟨Nat.le_of_ble_eq_true rfl, Nat.le_of_ble_eq_true rfl⟩) hK hP hD hS hA 9 rfl rfl rfl [0, 1, 5] [2, 3, 4] rfl rfl rfl rfl rfl rfl rfl hl.1 (Nat.le_of_ble_eq_true rfl) dX9_part_82 ⟨Nat.zero_le _, Nat.zero_le _⟩ rfl (fun H locs hP hD hS => ?_)
              obtain ⟨r21, hq22, hf⟩ := zb1_some hf
              refine zcallVi (ws2 := [k9_0 cI cB hM M, k9_2 cI cB hM M, k9_4 cI cB hM M, k9_5 cI cB hM M, k9_6 cI cB hM M, k9_9 cI cB hM M]) (rest := []) ⟨hx, hb, hml, hown, hts⟩ (c_X9_cutOf l D cI cB hM M a1 r19 r21 hq22) (cwV 2 hts (z_gV hG wd_789 wd_791 wd_s29 wd_15 wd_792) rfl rfl rfl q_X9_cutOf ⟨Nat.le_of_ble_eq_true rfl, Nat.le_of_ble_eq_true rfl⟩) hK hP hD hS hA 9 rfl rfl rfl [0, 2, 4] [1, 3, 5] rfl rfl rfl rfl rfl rfl rfl hl.1 (Nat.le_of_ble_eq_true rfl) dX9_part_85 ⟨Nat.zero_le _, Nat.zero_le _⟩ rfl (fun H locs hP hD hS => ?_)
              refine lv_aload_n hx hb dX9_part_88 rfl (lv_at hl 0 rfl) ?_
              refine va_get (D := D) (ci := 9) (v := .ref (hM 9)) (C := RX9) (T := TX9) (N := 23) hx hb hts hi9 hown hK hP 0 rfl rfl 10 (Nat.le_of_ble_eq_true rfl) (hts _ (List.mem_cons_of_mem _ wd_662)) (fun _ h9 => h9) rfl dX9_part_89 ?_
              refine lv_bipush (v := 7) hx hb dX9_part_92 (by decide) ?_
              refine lv_iload_n hx hb dX9_part_94 rfl (lv_at hl 1 rfl) ?_
              refine lv_iadd hx hb dX9_part_95 ?_
              obtain ⟨i_v23, v23, e_v23, hf⟩ := zl_some hf
              refine va_iald (n := 154) (f := M 10) (cA := cI) hx hb hK hP 5 0 rfl rfl i_v23 dX9_part_96 ?_
              refine zt e_v23 ?_
              refine lv_iadd hx hb dX9_part_97 ?_
              cases hf
              exact zretI hx hb hr hlocks hK hP hD hS dX9_part_98
            · replace hf := zif c_18 hf
              refine lv_tableOut (tgt := 99) hx hb dX9_part_23 (zsw_out (lo := 3) (hi := 6) (by decide) (fun k h1 h2 => by rcases (show k = 3 ∨ k = 4 ∨ k = 5 ∨ k = 6 by omega) with rfl | rfl | rfl | rfl <;> assumption)) (by decide) ?_
              refine lv_aload_n hx hb dX9_part_99 rfl (lv_at hl 0 rfl) ?_
              refine va_get (D := D) (ci := 9) (v := .ref (hM 6)) (C := RX9) (T := TX9) (N := 23) hx hb hts hi9 hown hK hP 0 rfl rfl 7 (Nat.le_of_ble_eq_true rfl) (hts _ (List.mem_cons_of_mem _ wd_659)) (fun _ h9 => h9) rfl dX9_part_100 ?_
              refine lv_iconst (v := 3) hx hb dX9_part_103 (by decide) ?_
              refine lv_iload_n hx hb dX9_part_104 rfl (lv_at hl 1 rfl) ?_
              refine lv_imul hx hb dX9_part_105 ?_
              refine lv_iload_n hx hb dX9_part_106 rfl (lv_at hl 2 rfl) ?_
              refine lv_iadd hx hb dX9_part_107 ?_
              obtain ⟨i_v24, v24, e_v24, hf⟩ := zl_some hf
              refine va_iald (n := 42) (f := M 7) (cA := cI) hx hb hK hP 4 0 rfl rfl i_v24 dX9_part_108 ?_
              refine zt e_v24 ?_
              cases hf
              exact zretI hx hb hr hlocks hK hP hD hS dX9_part_109
    · replace hf := zit c_6 hf
      refine lv_iconst (v := (-1)) hx hb dX9_part_20 (by decide) ?_
      cases hf
      exact zretI hx hb hr hlocks hK hP hD hS dX9_part_21
def f_X9_gap (M : zMm) (a1 : Int32) : Option (Int32 × zMm) := zb1 (f_X9_in (a1.toInt64) (-1) (((M 8 0) - 1).toInt64)) (fun (r1 : Int32) => if r1 = 0 then some (((-1) : Int32), M) else zb1 (f_X9_lengths M) (fun (M_4 : zMm) => if (0 : Int32) ≤ a1 then zb1 (f_X9_gapOf M_4 a1) (fun (r7 : Int32) => some (r7, M_4)) else zb1 (f_X9_gaps M_4) (fun (r9 : Int32) => some (r9, M_4))))
abbrev ww_X9_gap : List Cond := Cond.code yX9_gap cX9_gap 2 (some .int) :: wG
theorem q_X9_gap : yX9_gap.cls = RX9 ∧ yX9_gap.cls ≠ "java/lang/invoke/MethodHandle" ∧ yX9_gap.cls ≠ "java/lang/invoke/VarHandle" ∧ (parseMethodDescriptor yX9_gap.desc).map (fun d => d.parameters.length) = some 1 := by decide +kernel
set_option maxHeartbeats 4000000 in
set_option maxRecDepth 100000 in
theorem c_X9_gap (l : Launch) (D : va_G) (cI cB : ClassId) (hM : Nat → Nat) (M : zMm) (a1 : Int32) (r0 : Int32) (M0 : zMm) (hf : f_X9_gap M a1 = some (r0, M0)) : zMi l yX9_gap ww_X9_gap ({ frames := 3, cells := 0, slots := 0, locals := 67 } : Room) D cI cB [.ref (hM 0), .int a1] (w9 cI cB hM M) r0 (w9 cI cB hM M0) := by
  refine zofI (cc := cX9_gap) (maxL := 2) (ret := (some .int)) (by decide +kernel) rfl (Nat.le_of_ble_eq_true rfl) ?_
  intro p e s m below meth c A ls hx hb hml hr hown hts hlocks hK hP hD hS hA hl
  have hl : lv_has ls 2 [(0, .ref (hM 0)), (1, .int a1)] := hl
  have hown : s.vm.findClass RX9 = some m.cls := hown
  have hG : ∀ w ∈ wG, w ∈ ww_X9_gap := fun w h => List.mem_cons_of_mem _ h
  have hi9 : ∀ w ∈ wsX90, w ∈ ww_X9_gap := fun w h => List.mem_cons_of_mem _ (z_inX9 w h)
  unfold f_X9_gap at hf
  refine lv_iload_n hx hb dX9_gap_0 rfl (lv_at hl 1 rfl) ?_
  refine lv_i2l hx hb dX9_gap_1 rfl ?_
  refine lv_ldc2 (v := (-1)) hx hb hown (hts _ (List.mem_cons_of_mem _ wd_797)) dX9_gap_2 ?_
  refine lv_aload_n hx hb dX9_gap_5 rfl (lv_at hl 0 rfl) ?_
  refine va_get (D := D) (ci := 9) (v := .ref (hM 7)) (C := RX9) (T := TX9) (N := 23) hx hb hts hi9 hown hK hP 0 rfl rfl 8 (Nat.le_of_ble_eq_true rfl) (hts _ (List.mem_cons_of_mem _ wd_660)) (fun _ h9 => h9) rfl dX9_gap_6 ?_
  refine lv_iconst (v := 0) hx hb dX9_gap_9 (by decide) ?_
  refine va_iald (n := 2) (f := M 8) (cA := cI) hx hb hK hP 7 0 rfl rfl (z_in (by decide)) dX9_gap_10 ?_
  refine z_tc (k := 0) (by decide) ?_
  refine lv_iconst (v := 1) hx hb dX9_gap_11 (by decide) ?_
  refine lv_isub hx hb dX9_gap_12 ?_
  refine lv_i2l hx hb dX9_gap_13 rfl ?_
  obtain ⟨r1, hq2, hf⟩ := zb1_some hf
  refine zcallSi (rest := []) ⟨hx, hb, hml, hown, hts⟩ (c_X9_in l D cI cB (a1.toInt64) (-1) (((M 8 0) - 1).toInt64) r1 hq2) (z_cwS 3 hts (z_gS hG wd_727 wd_728 wd_15 wd_729) rfl rfl rfl q_X9_in ⟨Nat.le_of_ble_eq_true rfl, Nat.le_of_ble_eq_true rfl⟩) hK hP hD hS hA rfl hl.1 (Nat.le_of_ble_eq_true rfl) dX9_gap_14 ⟨Nat.zero_le _, Nat.zero_le _⟩ rfl (fun H locs hP hD hS => ?_)
  refine lv_if_ne (tgt := 22) hx hb dX9_gap_17 (by decide) (fun c_3 => ?_) (fun c_3 => ?_)
  · replace hf := zif c_3 hf
    refine lv_aload_n hx hb dX9_gap_22 rfl (lv_at hl 0 rfl) ?_
    obtain ⟨M_4, hq5, hf⟩ := zb1_some hf
    refine zcallVv (ws2 := (w9 cI cB hM M_4)) (rest := []) ⟨hx, hb, hml, hown, hts⟩ (c_X9_lengths l D cI cB hM M M_4 hq5) (cwV 0 hts (z_gV hG wd_798 wd_800 wd_s30 wd_15 wd_801) rfl rfl rfl q_X9_lengths ⟨Nat.le_of_ble_eq_true rfl, Nat.le_of_ble_eq_true rfl⟩) hK hP hD hS hA 9 rfl rfl rfl [0, 1, 2, 3, 4, 5, 6, 7, 8, 9, 10, 11, 12, 13, 14, 15, 16, 17] [] rfl rfl rfl rfl rfl rfl rfl hl.1 (Nat.le_of_ble_eq_true rfl) dX9_gap_23 ⟨Nat.zero_le _, Nat.zero_le _⟩ rfl (fun H locs hP hD hS => ?_)
    refine lv_iload_n hx hb dX9_gap_26 rfl (lv_at hl 1 rfl) ?_
    refine lv_if_ge (tgt := 37) hx hb dX9_gap_27 (by decide) (fun c_6 => ?_) (fun c_6 => ?_)
    · replace hf := zit c_6 hf
      refine lv_aload_n hx hb dX9_gap_37 rfl (lv_at hl 0 rfl) ?_
      refine lv_iload_n hx hb dX9_gap_38 rfl (lv_at hl 1 rfl) ?_
      obtain ⟨r7, hq8, hf⟩ := zb1_some hf
      refine zcallVi (ws2 := (w9 cI cB hM M_4)) (rest := []) ⟨hx, hb, hml, hown, hts⟩ (c_X9_gapOf l D cI cB hM M_4 a1 r7 hq8) (cwV 1 hts (z_gV hG wd_806 wd_808 wd_s32 wd_15 wd_809) rfl rfl rfl q_X9_gapOf ⟨Nat.le_of_ble_eq_true rfl, Nat.le_of_ble_eq_true rfl⟩) hK hP hD hS hA 9 rfl rfl rfl [0, 8, 14] [1, 2, 3, 4, 5, 6, 7, 9, 10, 11, 12, 13, 15, 16, 17] rfl rfl rfl rfl rfl rfl rfl hl.1 (Nat.le_of_ble_eq_true rfl) dX9_gap_39 ⟨Nat.zero_le _, Nat.zero_le _⟩ rfl (fun H locs hP hD hS => ?_)
      cases hf
      exact zretI hx hb hr hlocks hK hP hD hS dX9_gap_42
    · replace hf := zif c_6 hf
      refine lv_aload_n hx hb dX9_gap_30 rfl (lv_at hl 0 rfl) ?_
      obtain ⟨r9, hq10, hf⟩ := zb1_some hf
      refine zcallVi (ws2 := (w9 cI cB hM M_4)) (rest := []) ⟨hx, hb, hml, hown, hts⟩ (c_X9_gaps l D cI cB hM M_4 r9 hq10) (cwV 0 hts (z_gV hG wd_802 wd_804 wd_s31 wd_15 wd_805) rfl rfl rfl q_X9_gaps ⟨Nat.le_of_ble_eq_true rfl, Nat.le_of_ble_eq_true rfl⟩) hK hP hD hS hA 9 rfl rfl rfl [0, 7, 8, 14] [1, 2, 3, 4, 5, 6, 9, 10, 11, 12, 13, 15, 16, 17] rfl rfl rfl rfl rfl rfl rfl hl.1 (Nat.le_of_ble_eq_true rfl) dX9_gap_31 ⟨Nat.zero_le _, Nat.zero_le _⟩ rfl (fun H locs hP hD hS => ?_)
      refine lv_goto (tgt := 42) hx hb dX9_gap_34 (by decide) ?_
      cases hf
      exact zretI hx hb hr hlocks hK hP hD hS dX9_gap_42
  · replace hf := zit c_3 hf
    refine lv_iconst (v := (-1)) hx hb dX9_gap_20 (by decide) ?_
    cases hf
    exact zretI hx hb hr hlocks hK hP hD hS dX9_gap_21
def f_X9_closes (M : zMm) : Option (Int32 × zMm) := zb1 (f_X9_lengths M) (fun (M_1 : zMm) => zb1 (f_X9_isClosed M_1) (fun (r3 : Int32) => if r3 = 0 then some ((0 : Int32), M_1) else some ((1 : Int32), M_1)))
abbrev ww_X9_closes : List Cond := Cond.code yX9_closes cX9_closes 1 (some .int) :: wG
theorem q_X9_closes : yX9_closes.cls = RX9 ∧ yX9_closes.cls ≠ "java/lang/invoke/MethodHandle" ∧ yX9_closes.cls ≠ "java/lang/invoke/VarHandle" ∧ (parseMethodDescriptor yX9_closes.desc).map (fun d => d.parameters.length) = some 0 := by decide +kernel
set_option maxHeartbeats 4000000 in
set_option maxRecDepth 100000 in
theorem c_X9_closes (l : Launch) (D : va_G) (cI cB : ClassId) (hM : Nat → Nat) (M : zMm) (r0 : Int32) (M0 : zMm) (hf : f_X9_closes M = some (r0, M0)) : zMi l yX9_closes ww_X9_closes ({ frames := 3, cells := 0, slots := 0, locals := 67 } : Room) D cI cB [.ref (hM 0)] (w9 cI cB hM M) r0 (w9 cI cB hM M0) := by
  refine zofI (cc := cX9_closes) (maxL := 1) (ret := (some .int)) (by decide +kernel) rfl (Nat.le_of_ble_eq_true rfl) ?_
  intro p e s m below meth c A ls hx hb hml hr hown hts hlocks hK hP hD hS hA hl
  have hl : lv_has ls 1 [(0, .ref (hM 0))] := hl
  have hown : s.vm.findClass RX9 = some m.cls := hown
  have hG : ∀ w ∈ wG, w ∈ ww_X9_closes := fun w h => List.mem_cons_of_mem _ h
  unfold f_X9_closes at hf
  refine lv_aload_n hx hb dX9_closes_0 rfl (lv_at hl 0 rfl) ?_
  obtain ⟨M_1, hq2, hf⟩ := zb1_some hf
  refine zcallVv (ws2 := (w9 cI cB hM M_1)) (rest := []) ⟨hx, hb, hml, hown, hts⟩ (c_X9_lengths l D cI cB hM M M_1 hq2) (cwV 0 hts (z_gV hG wd_798 wd_800 wd_s30 wd_15 wd_801) rfl rfl rfl q_X9_lengths ⟨Nat.le_of_ble_eq_true rfl, Nat.le_of_ble_eq_true rfl⟩) hK hP hD hS hA 9 rfl rfl rfl [0, 1, 2, 3, 4, 5, 6, 7, 8, 9, 10, 11, 12, 13, 14, 15, 16, 17] [] rfl rfl rfl rfl rfl rfl rfl hl.1 (Nat.le_of_ble_eq_true rfl) dX9_closes_1 ⟨Nat.zero_le _, Nat.zero_le _⟩ rfl (fun H locs hP hD hS => ?_)
  refine lv_aload_n hx hb dX9_closes_4 rfl (lv_at hl 0 rfl) ?_
  obtain ⟨r3, hq4, hf⟩ := zb1_some hf
  refine zcallVi (ws2 := (w9 cI cB hM M_1)) (rest := []) ⟨hx, hb, hml, hown, hts⟩ (c_X9_isClosed l D cI cB hM M_1 r3 hq4) (cwV 0 hts (z_gV hG wd_814 wd_816 wd_s33 wd_15 wd_817) rfl rfl rfl q_X9_isClosed ⟨Nat.le_of_ble_eq_true rfl, Nat.le_of_ble_eq_true rfl⟩) hK hP hD hS hA 9 rfl rfl rfl [0, 2, 7, 8, 14] [1, 3, 4, 5, 6, 9, 10, 11, 12, 13, 15, 16, 17] rfl rfl rfl rfl rfl rfl rfl hl.1 (Nat.le_of_ble_eq_true rfl) dX9_closes_5 ⟨Nat.zero_le _, Nat.zero_le _⟩ rfl (fun H locs hP hD hS => ?_)
  refine lv_if_eq (tgt := 15) hx hb dX9_closes_8 (by decide) (fun c_5 => ?_) (fun c_5 => ?_)
  · replace hf := zit c_5 hf
    refine lv_iconst (v := 0) hx hb dX9_closes_15 (by decide) ?_
    cases hf
    exact zretI hx hb hr hlocks hK hP hD hS dX9_closes_16
  · replace hf := zif c_5 hf
    refine lv_iconst (v := 1) hx hb dX9_closes_11 (by decide) ?_
    refine lv_goto (tgt := 16) hx hb dX9_closes_12 (by decide) ?_
    cases hf
    exact zretI hx hb hr hlocks hK hP hD hS dX9_closes_16
def L_X9_copies_2 (l1 : Int32) (l2 : Int32) : Nat → Int32 → zMm → Option (Int32 × zMm)
  | 0, _, _ => none
  | n + 1, l3, M => if (14 : Int32) ≤ l3 then some (l3, M) else zl 154 (M 10) (((14 : Int32) * l1) + l3) (fun v2 => zw 154 M 10 (((14 : Int32) * l2) + l3) v2 (fun M_3 => zv (l3 + 1) (fun (x4 : Int32) => L_X9_copies_2 l1 l2 n x4 M_3)))
def f_X9_copies (M : zMm) (a1 : Int32) (a2 : Int32) : Option (zMm) := zb2 (L_X9_copies_2 a1 a2 100000 0 M) (fun (x5 : Int32) (M_6 : zMm) => some M_6)
abbrev ww_X9_copies : List Cond := Cond.code yX9_copies cX9_copies 4 none :: wG
theorem q_X9_copies : yX9_copies.cls = RX9 ∧ yX9_copies.cls ≠ "java/lang/invoke/MethodHandle" ∧ yX9_copies.cls ≠ "java/lang/invoke/VarHandle" ∧ (parseMethodDescriptor yX9_copies.desc).map (fun d => d.parameters.length) = some 2 := by decide +kernel
set_option maxHeartbeats 4000000 in
set_option maxRecDepth 100000 in
theorem c_X9_copies (l : Launch) (D : va_G) (cI cB : ClassId) (hM : Nat → Nat) (M : zMm) (a1 : Int32) (a2 : Int32) (M0 : zMm) (hf : f_X9_copies M a1 a2 = some M0) : zMv l yX9_copies ww_X9_copies ({ frames := 0, cells := 0, slots := 0, locals := 0 } : Room) D cI cB [.ref (hM 0), .int a1, .int a2] (w9 cI cB hM M) (w9 cI cB hM M0) := by
  refine zofV (cc := cX9_copies) (maxL := 4) (ret := none) (by decide +kernel) rfl (Nat.le_of_ble_eq_true rfl) ?_
  intro p e s m below meth c A ls hx hb hml hr hown hts hlocks hK hP hD hS hA hl
  have hl : lv_has ls 4 [(0, .ref (hM 0)), (1, .int a1), (2, .int a2)] := hl
  have hown : s.vm.findClass RX9 = some m.cls := hown
  have hG : ∀ w ∈ wG, w ∈ ww_X9_copies := fun w h => List.mem_cons_of_mem _ h
  have hi9 : ∀ w ∈ wsX90, w ∈ ww_X9_copies := fun w h => List.mem_cons_of_mem _ (z_inX9 w h)
  have L2 : ∀ (l1 : Int32) (l2 : Int32) (n : Nat) (l3 : Int32) (M : zMm) (o3 : Int32) (oM : zMm), L_X9_copies_2 l1 l2 n l3 M = some (o3, oM) → zAt p l e ({ frames := 0, cells := 0, slots := 0, locals := 0 } : Room) s m [.ref (hM 0), .int a1, .int a2].toArray below meth c (MQ below (zQv D cI cB (w9 cI cB hM M0) A) [.ref (hM 0), .int a1, .int a2].toArray s 0 0 A) A D 4 (w9 cI cB hM oM) [(0, .ref (hM 0)), (1, .int l1), (2, .int l2), (3, .int o3)] 36 [] → zAt p l e ({ frames := 0, cells := 0, slots := 0, locals := 0 } : Room) s m [.ref (hM 0), .int a1, .int a2].toArray below meth c (MQ below (zQv D cI cB (w9 cI cB hM M0) A) [.ref (hM 0), .int a1, .int a2].toArray s 0 0 A) A D 4 (w9 cI cB hM M) [(0, .ref (hM 0)), (1, .int l1), (2, .int l2), (3, .int l3)] 2 [] := by
    intro l1 l2 n
    induction n with
    | zero => intro l3 M o3 oM hf; simp [L_X9_copies_2] at hf
    | succ n ih =>
      intro l3 M o3 oM hf hk H locs ls hP hD hS hl
      rw [L_X9_copies_2] at hf
      refine lv_iload_n hx hb dX9_copies_2 rfl (lv_at hl 3 rfl) ?_
      refine lv_bipush (v := 14) hx hb dX9_copies_3 (by decide) ?_
      refine lv_icmp_ge (tgt := 36) hx hb dX9_copies_5 (by decide) (fun c_1 => ?_) (fun c_1 => ?_)
      · replace hf := zit c_1 hf
        cases hf
        exact hk _ _ _ hP hD hS (lv_sub hl [0, 1, 2, 3] rfl)
      · replace hf := zif c_1 hf
        refine lv_aload_n hx hb dX9_copies_8 rfl (lv_at hl 0 rfl) ?_
        refine va_get (D := D) (ci := 9) (v := .ref (hM 9)) (C := RX9) (T := TX9) (N := 23) hx hb hts hi9 hown hK hP 0 rfl rfl 10 (Nat.le_of_ble_eq_true rfl) (hts _ (List.mem_cons_of_mem _ wd_662)) (fun _ h9 => h9) rfl dX9_copies_9 ?_
        refine lv_bipush (v := 14) hx hb dX9_copies_12 (by decide) ?_
        refine lv_iload_n hx hb dX9_copies_14 rfl (lv_at hl 2 rfl) ?_
        refine lv_imul hx hb dX9_copies_15 ?_
        refine lv_iload_n hx hb dX9_copies_16 rfl (lv_at hl 3 rfl) ?_
        refine lv_iadd hx hb dX9_copies_17 ?_
        refine lv_aload_n hx hb dX9_copies_18 rfl (lv_at hl 0 rfl) ?_
        refine va_get (D := D) (ci := 9) (v := .ref (hM 9)) (C := RX9) (T := TX9) (N := 23) hx hb hts hi9 hown hK hP 0 rfl rfl 10 (Nat.le_of_ble_eq_true rfl) (hts _ (List.mem_cons_of_mem _ wd_662)) (fun _ h9 => h9) rfl dX9_copies_19 ?_
        refine lv_bipush (v := 14) hx hb dX9_copies_22 (by decide) ?_
        refine lv_iload_n hx hb dX9_copies_24 rfl (lv_at hl 1 rfl) ?_
        refine lv_imul hx hb dX9_copies_25 ?_
        refine lv_iload_n hx hb dX9_copies_26 rfl (lv_at hl 3 rfl) ?_
        refine lv_iadd hx hb dX9_copies_27 ?_
        obtain ⟨i_v2, v2, e_v2, hf⟩ := zl_some hf
        refine va_iald (n := 154) (f := M 10) (cA := cI) hx hb hK hP 9 0 rfl rfl i_v2 dX9_copies_28 ?_
        refine zt e_v2 ?_
        obtain ⟨i_M_3, M_3, e_M_3, hf⟩ := zw_some hf
        refine va_iast (n := 154) (f := M 10) (cA := cI) hx hb hK hP hD hS 9 0 rfl rfl i_M_3 dX9_copies_29 (fun H locs hP hD hS => ?_)
        have hP : va_P D vwCl (w9 cI cB hM (zs M 10 (upd (M 10) (((14 : Int32) * l2) + l3).toNatClampNeg v2))) H := hP
        have hD : va_D A (w9 cI cB hM (zs M 10 (upd (M 10) (((14 : Int32) * l2) + l3).toNatClampNeg v2))) := hD
        rw [← e_M_3] at hP hD
        obtain ⟨x4, e_x4, hf⟩ := zv_some hf
        refine lv_iinc (v := x4) (lv' := [(3, .int x4), (0, .ref (hM 0)), (1, .int l1), (2, .int l2)]) hx hb dX9_copies_30 hl (k := 3) rfl (by rw [e_x4]; rfl) (by decide) rfl (fun ls hl => ?_)
        refine lv_goto (tgt := 2) hx hb dX9_copies_33 (by decide) ?_
        exact ih _ _ _ _ hf hk _ _ _ hP hD hS (lv_sub hl [1, 2, 3, 0] rfl)
  unfold f_X9_copies at hf
  refine lv_iconst (v := 0) hx hb dX9_copies_0 (by decide) ?_
  refine lv_istore_n (lv' := [(3, .int 0), (0, .ref (hM 0)), (1, .int a1), (2, .int a2)]) hx hb dX9_copies_1 rfl hl (by decide) rfl (fun ls hl => ?_)
  obtain ⟨x5, M_6, hq7, hf⟩ := zb2_some hf
  refine L2 _ _ _ _ _ _ _ hq7 ?_ _ _ _ hP hD hS (lv_sub hl [1, 2, 3, 0] rfl)
  intro H locs ls hP hD hS hl
  cases hf
  exact zretV hx hb hr hlocks hK hP hD hS dX9_copies_36
def L_X9_known_11  : Nat → Int32 → zMm → Option (Int32 × zMm)
  | 0, _, _ => none
  | n + 1, l1, M => if (10 : Int32) ≤ l1 then some (l1, M) else zb1 (f_X9_copies M (l1 + 1) l1) (fun (M_3 : zMm) => zv (l1 + 1) (fun (x5 : Int32) => L_X9_known_11  n x5 M_3))
def f_X9_known (M : zMm) : Option (zMm) := zb1 (if (M 12 0) = 8 then zb2 (L_X9_known_11 100000 3 M) (fun (x5 : Int32) (M_6 : zMm) => zv (zs M_6 12 (fun _ => (M_6 12 0) - 1)) (fun (M_8 : zMm) => some M_8)) else some M) (fun (M_2 : zMm) => zb1 (f_X9_copies M_2 0 ((3 : Int32) + (M_2 12 0))) (fun (M_9 : zMm) => zv (zs M_9 12 (fun _ => (M_9 12 0) + 1)) (fun (M_11 : zMm) => some M_11)))
abbrev ww_X9_known : List Cond := Cond.code yX9_known cX9_known 2 none :: wG
theorem q_X9_known : yX9_known.cls = RX9 ∧ yX9_known.cls ≠ "java/lang/invoke/MethodHandle" ∧ yX9_known.cls ≠ "java/lang/invoke/VarHandle" ∧ (parseMethodDescriptor yX9_known.desc).map (fun d => d.parameters.length) = some 0 := by decide +kernel
set_option maxHeartbeats 4000000 in
set_option maxRecDepth 100000 in
theorem c_X9_known (l : Launch) (D : va_G) (cI cB : ClassId) (hM : Nat → Nat) (M : zMm) (M0 : zMm) (hf : f_X9_known M = some M0) : zMv l yX9_known ww_X9_known ({ frames := 1, cells := 0, slots := 0, locals := 23 } : Room) D cI cB [.ref (hM 0)] (w9 cI cB hM M) (w9 cI cB hM M0) := by
  refine zofV (cc := cX9_known) (maxL := 2) (ret := none) (by decide +kernel) rfl (Nat.le_of_ble_eq_true rfl) ?_
  intro p e s m below meth c A ls hx hb hml hr hown hts hlocks hK hP hD hS hA hl
  have hl : lv_has ls 2 [(0, .ref (hM 0))] := hl
  have hown : s.vm.findClass RX9 = some m.cls := hown
  have hG : ∀ w ∈ wG, w ∈ ww_X9_known := fun w h => List.mem_cons_of_mem _ h
  have hi9 : ∀ w ∈ wsX90, w ∈ ww_X9_known := fun w h => List.mem_cons_of_mem _ (z_inX9 w h)
  have L11 : ∀  (n : Nat) (l1 : Int32) (M : zMm) (o1 : Int32) (oM : zMm), L_X9_known_11  n l1 M = some (o1, oM) → zAt p l e ({ frames := 1, cells := 0, slots := 0, locals := 23 } : Room) s m [.ref (hM 0)].toArray below meth c (MQ below (zQv D cI cB (w9 cI cB hM M0) A) [.ref (hM 0)].toArray s 0 0 A) A D 2 (w9 cI cB hM oM) [(0, .ref (hM 0)), (1, .int o1)] 31 [] → zAt p l e ({ frames := 1, cells := 0, slots := 0, locals := 23 } : Room) s m [.ref (hM 0)].toArray below meth c (MQ below (zQv D cI cB (w9 cI cB hM M0) A) [.ref (hM 0)].toArray s 0 0 A) A D 2 (w9 cI cB hM M) [(0, .ref (hM 0)), (1, .int l1)] 11 [] := by
    intro n
    induction n with
    | zero => intro l1 M o1 oM hf; simp [L_X9_known_11] at hf
    | succ n ih =>
      intro l1 M o1 oM hf hk H locs ls hP hD hS hl
      rw [L_X9_known_11] at hf
      refine lv_iload_n hx hb dX9_known_11 rfl (lv_at hl 1 rfl) ?_
      refine lv_bipush (v := 10) hx hb dX9_known_12 (by decide) ?_
      refine lv_icmp_ge (tgt := 31) hx hb dX9_known_14 (by decide) (fun c_2 => ?_) (fun c_2 => ?_)
      · replace hf := zit c_2 hf
        cases hf
        exact hk _ _ _ hP hD hS (lv_sub hl [0, 1] rfl)
      · replace hf := zif c_2 hf
        refine lv_aload_n hx hb dX9_known_17 rfl (lv_at hl 0 rfl) ?_
        refine lv_iload_n hx hb dX9_known_18 rfl (lv_at hl 1 rfl) ?_
        refine lv_iconst (v := 1) hx hb dX9_known_19 (by decide) ?_
        refine lv_iadd hx hb dX9_known_20 ?_
        refine lv_iload_n hx hb dX9_known_21 rfl (lv_at hl 1 rfl) ?_
        obtain ⟨M_3, hq4, hf⟩ := zb1_some hf
        refine zcallVv (ws2 := (w9 cI cB hM M_3)) (rest := []) ⟨hx, hb, hml, hown, hts⟩ (c_X9_copies l D cI cB hM M (l1 + 1) l1 M_3 hq4) (cwV 2 hts (z_gV hG wd_826 wd_828 wd_s35 wd_15 wd_829) rfl rfl rfl q_X9_copies ⟨Nat.le_of_ble_eq_true rfl, Nat.le_of_ble_eq_true rfl⟩) hK hP hD hS hA 9 rfl rfl rfl [0, 1, 2, 3, 4, 5, 6, 7, 8, 9, 10, 11, 12, 13, 14, 15, 16, 17] [] rfl rfl rfl rfl rfl rfl rfl hl.1 (Nat.le_of_ble_eq_true rfl) dX9_known_22 ⟨Nat.zero_le _, Nat.zero_le _⟩ rfl (fun H locs hP hD hS => ?_)
        obtain ⟨x5, e_x5, hf⟩ := zv_some hf
        refine lv_iinc (v := x5) (lv' := [(1, .int x5), (0, .ref (hM 0))]) hx hb dX9_known_25 hl (k := 1) rfl (by rw [e_x5]; rfl) (by decide) rfl (fun ls hl => ?_)
        refine lv_goto (tgt := 11) hx hb dX9_known_28 (by decide) ?_
        exact ih _ _ _ _ hf hk _ _ _ hP hD hS (lv_sub hl [1, 0] rfl)
  unfold f_X9_known at hf
  refine lv_aload_n hx hb dX9_known_0 rfl (lv_at hl 0 rfl) ?_
  refine va_get (D := D) (ci := 9) (v := .int (M 12 0)) (C := RX9) (T := TX9) (N := 23) hx hb hts hi9 hown hK hP 0 rfl rfl 12 (Nat.le_of_ble_eq_true rfl) (hts _ (List.mem_cons_of_mem _ wd_664)) (fun _ h9 => h9) rfl dX9_known_1 ?_
  refine lv_bipush (v := 8) hx hb dX9_known_4 (by decide) ?_
  obtain ⟨M_2, hq3, hf⟩ := zb1_some hf
  have J4 : zAt p l e ({ frames := 1, cells := 0, slots := 0, locals := 23 } : Room) s m [.ref (hM 0)].toArray below meth c (MQ below (zQv D cI cB (w9 cI cB hM M0) A) [.ref (hM 0)].toArray s 0 0 A) A D 2 (w9 cI cB hM M_2) [(0, .ref (hM 0))] 41 [] := by
    intro H locs ls hP hD hS hl
    refine lv_aload_n hx hb dX9_known_41 rfl (lv_at hl 0 rfl) ?_
    refine lv_iconst (v := 0) hx hb dX9_known_42 (by decide) ?_
    refine lv_iconst (v := 3) hx hb dX9_known_43 (by decide) ?_
    refine lv_aload_n hx hb dX9_known_44 rfl (lv_at hl 0 rfl) ?_
    refine va_get (D := D) (ci := 9) (v := .int (M_2 12 0)) (C := RX9) (T := TX9) (N := 23) hx hb hts hi9 hown hK hP 0 rfl rfl 12 (Nat.le_of_ble_eq_true rfl) (hts _ (List.mem_cons_of_mem _ wd_664)) (fun _ h9 => h9) rfl dX9_known_45 ?_
    refine lv_iadd hx hb dX9_known_48 ?_
    obtain ⟨M_9, hq10, hf⟩ := zb1_some hf
    refine zcallVv (ws2 := (w9 cI cB hM M_9)) (rest := []) ⟨hx, hb, hml, hown, hts⟩ (c_X9_copies l D cI cB hM M_2 0 ((3 : Int32) + (M_2 12 0)) M_9 hq10) (cwV 2 hts (z_gV hG wd_826 wd_828 wd_s35 wd_15 wd_829) rfl rfl rfl q_X9_copies ⟨Nat.le_of_ble_eq_true rfl, Nat.le_of_ble_eq_true rfl⟩) hK hP hD hS hA 9 rfl rfl rfl [0, 1, 2, 3, 4, 5, 6, 7, 8, 9, 10, 11, 12, 13, 14, 15, 16, 17] [] rfl rfl rfl rfl rfl rfl rfl hl.1 (Nat.le_of_ble_eq_true rfl) dX9_known_49 ⟨Nat.zero_le _, Nat.zero_le _⟩ rfl (fun H locs hP hD hS => ?_)
    refine lv_aload_n hx hb dX9_known_52 rfl (lv_at hl 0 rfl) ?_
    refine lv_dup hx hb dX9_known_53 rfl ?_
    refine va_get (D := D) (ci := 9) (v := .int (M_9 12 0)) (C := RX9) (T := TX9) (N := 23) hx hb hts hi9 hown hK hP 0 rfl rfl 12 (Nat.le_of_ble_eq_true rfl) (hts _ (List.mem_cons_of_mem _ wd_664)) (fun _ h9 => h9) rfl dX9_known_54 ?_
    refine lv_iconst (v := 1) hx hb dX9_known_57 (by decide) ?_
    refine lv_iadd hx hb dX9_known_58 ?_
    obtain ⟨M_11, e_M_11, hf⟩ := zv_some hf
    refine va_put (D := D) (ci := 9) (v := .int ((M_9 12 0) + 1)) (ty := .int) (C := RX9) (T := TX9) (N := 23) hx hb hts hi9 tyX9 tyX9_ok nmX9 hown hK hP hD hS 0 rfl rfl 12 (Nat.le_of_ble_eq_true rfl) (hts _ (List.mem_cons_of_mem _ wd_664)) (fun _ h9 => h9) rfl (by decide +kernel) rfl rfl (Nat.le_of_ble_eq_true rfl) dX9_known_59 (fun H locs hP hD hS => ?_)
    have hP : va_P D vwCl (w9 cI cB hM (zs M_9 12 (fun _ => (M_9 12 0) + 1))) H := hP
    have hD : va_D A (w9 cI cB hM (zs M_9 12 (fun _ => (M_9 12 0) + 1))) := hD
    rw [← e_M_11] at hP hD
    cases hf
    exact zretV hx hb hr hlocks hK hP hD hS dX9_known_62
  replace hf := hq3
  refine lv_icmp_ne (tgt := 41) hx hb dX9_known_6 (by decide) (fun c_1 => ?_) (fun c_1 => ?_)
  · replace hf := zif c_1 hf
    cases hf
    exact J4 _ _ _ hP hD hS (lv_sub hl [0] rfl)
  · replace hf := zit c_1 hf
    refine lv_iconst (v := 3) hx hb dX9_known_9 (by decide) ?_
    refine lv_istore_n (lv' := [(1, .int 3), (0, .ref (hM 0))]) hx hb dX9_known_10 rfl hl (by decide) rfl (fun ls hl => ?_)
    obtain ⟨x5, M_6, hq7, hf⟩ := zb2_some hf
    refine L11 _ _ _ _ _ hq7 ?_ _ _ _ hP hD hS (lv_sub hl [1, 0] rfl)
    intro H locs ls hP hD hS hl
    refine lv_aload_n hx hb dX9_known_31 rfl (lv_at hl 0 rfl) ?_
    refine lv_dup hx hb dX9_known_32 rfl ?_
    refine va_get (D := D) (ci := 9) (v := .int (M_6 12 0)) (C := RX9) (T := TX9) (N := 23) hx hb hts hi9 hown hK hP 0 rfl rfl 12 (Nat.le_of_ble_eq_true rfl) (hts _ (List.mem_cons_of_mem _ wd_664)) (fun _ h9 => h9) rfl dX9_known_33 ?_
    refine lv_iconst (v := 1) hx hb dX9_known_36 (by decide) ?_
    refine lv_isub hx hb dX9_known_37 ?_
    obtain ⟨M_8, e_M_8, hf⟩ := zv_some hf
    refine va_put (D := D) (ci := 9) (v := .int ((M_6 12 0) - 1)) (ty := .int) (C := RX9) (T := TX9) (N := 23) hx hb hts hi9 tyX9 tyX9_ok nmX9 hown hK hP hD hS 0 rfl rfl 12 (Nat.le_of_ble_eq_true rfl) (hts _ (List.mem_cons_of_mem _ wd_664)) (fun _ h9 => h9) rfl (by decide +kernel) rfl rfl (Nat.le_of_ble_eq_true rfl) dX9_known_38 (fun H locs hP hD hS => ?_)
    have hP : va_P D vwCl (w9 cI cB hM (zs M_6 12 (fun _ => (M_6 12 0) - 1))) H := hP
    have hD : va_D A (w9 cI cB hM (zs M_6 12 (fun _ => (M_6 12 0) - 1))) := hD
    rw [← e_M_8] at hP hD
    cases hf
    exact J4 _ _ _ hP hD hS (lv_sub hl [0] rfl)
def L_X9_change_56 (l1 : Int32) (l2 : Int32) (l3 : Int32) : Nat → Int32 → zMm → Option (Int32 × zMm)
  | 0, _, _ => none
  | n + 1, l4, M => if (7 : Int32) ≤ l4 then some (l4, M) else zw 154 M 10 ((7 : Int32) + l4) 0 (fun M_15 => zv (l4 + 1) (fun (x16 : Int32) => L_X9_change_56 l1 l2 l3 n x16 M_15))
def f_X9_change (M : zMm) (a1 : Int32) (a2 : Int32) : Option (Int32 × zMm) := zb1 (f_X9_isPart M a1) (fun (r1 : Int32) => if r1 = 0 then some (((-1) : Int32), M) else zb1 (f_X9_isPart M a2) (fun (r4 : Int32) => if r4 = 0 then some (((-1) : Int32), M) else if a1 = a2 then some (((-1) : Int32), M) else zb1 (f_X9_known M) (fun (M_8 : zMm) => zl 154 (M_8 10) a1 (fun v10 => zl 154 (M_8 10) a2 (fun v11 => zw 154 M_8 10 a1 v11 (fun M_12 => zw 154 M_12 10 a2 v10 (fun M_13 => zb2 (L_X9_change_56 a1 a2 v10 100000 0 M_13) (fun (x17 : Int32) (M_18 : zMm) => zb1 (f_X9_lengths M_18) (fun (M_20 : zMm) => zb1 (f_X9_gaps M_20) (fun (r22 : Int32) => some (r22, M_20)))))))))))
abbrev ww_X9_change : List Cond := Cond.code yX9_change cX9_change 5 (some .int) :: wG
theorem q_X9_change : yX9_change.cls = RX9 ∧ yX9_change.cls ≠ "java/lang/invoke/MethodHandle" ∧ yX9_change.cls ≠ "java/lang/invoke/VarHandle" ∧ (parseMethodDescriptor yX9_change.desc).map (fun d => d.parameters.length) = some 2 := by decide +kernel
set_option maxHeartbeats 4000000 in
set_option maxRecDepth 100000 in
theorem c_X9_change (l : Launch) (D : va_G) (cI cB : ClassId) (hM : Nat → Nat) (M : zMm) (a1 : Int32) (a2 : Int32) (r0 : Int32) (M0 : zMm) (hf : f_X9_change M a1 a2 = some (r0, M0)) : zMi l yX9_change ww_X9_change ({ frames := 3, cells := 0, slots := 0, locals := 67 } : Room) D cI cB [.ref (hM 0), .int a1, .int a2] (w9 cI cB hM M) r0 (w9 cI cB hM M0) := by
  refine zofI (cc := cX9_change) (maxL := 5) (ret := (some .int)) (by decide +kernel) rfl (Nat.le_of_ble_eq_true rfl) ?_
  intro p e s m below meth c A ls hx hb hml hr hown hts hlocks hK hP hD hS hA hl
  have hl : lv_has ls 5 [(0, .ref (hM 0)), (1, .int a1), (2, .int a2)] := hl
  have hown : s.vm.findClass RX9 = some m.cls := hown
  have hG : ∀ w ∈ wG, w ∈ ww_X9_change := fun w h => List.mem_cons_of_mem _ h
  have hi9 : ∀ w ∈ wsX90, w ∈ ww_X9_change := fun w h => List.mem_cons_of_mem _ (z_inX9 w h)
  have L56 : ∀ (l1 : Int32) (l2 : Int32) (l3 : Int32) (n : Nat) (l4 : Int32) (M : zMm) (o4 : Int32) (oM : zMm), L_X9_change_56 l1 l2 l3 n l4 M = some (o4, oM) → zAt p l e ({ frames := 3, cells := 0, slots := 0, locals := 67 } : Room) s m [.ref (hM 0), .int a1, .int a2].toArray below meth c (MQ below (zQi D cI cB r0 (w9 cI cB hM M0) A) [.ref (hM 0), .int a1, .int a2].toArray s 0 0 A) A D 5 (w9 cI cB hM oM) [(0, .ref (hM 0)), (1, .int l1), (2, .int l2), (3, .int l3), (4, .int o4)] 80 [] → zAt p l e ({ frames := 3, cells := 0, slots := 0, locals := 67 } : Room) s m [.ref (hM 0), .int a1, .int a2].toArray below meth c (MQ below (zQi D cI cB r0 (w9 cI cB hM M0) A) [.ref (hM 0), .int a1, .int a2].toArray s 0 0 A) A D 5 (w9 cI cB hM M) [(0, .ref (hM 0)), (1, .int l1), (2, .int l2), (3, .int l3), (4, .int l4)] 56 [] := by
    intro l1 l2 l3 n
    induction n with
    | zero => intro l4 M o4 oM hf; simp [L_X9_change_56] at hf
    | succ n ih =>
      intro l4 M o4 oM hf hk H locs ls hP hD hS hl
      rw [L_X9_change_56] at hf
      refine lv_iload hx hb dX9_change_56 (lv_at hl 4 rfl) ?_
      refine lv_bipush (v := 7) hx hb dX9_change_58 (by decide) ?_
      refine lv_icmp_ge (tgt := 80) hx hb dX9_change_60 (by decide) (fun c_14 => ?_) (fun c_14 => ?_)
      · replace hf := zit c_14 hf
        cases hf
        exact hk _ _ _ hP hD hS (lv_sub hl [0, 1, 2, 3, 4] rfl)
      · replace hf := zif c_14 hf
        refine lv_aload_n hx hb dX9_change_63 rfl (lv_at hl 0 rfl) ?_
        refine va_get (D := D) (ci := 9) (v := .ref (hM 9)) (C := RX9) (T := TX9) (N := 23) hx hb hts hi9 hown hK hP 0 rfl rfl 10 (Nat.le_of_ble_eq_true rfl) (hts _ (List.mem_cons_of_mem _ wd_662)) (fun _ h9 => h9) rfl dX9_change_64 ?_
        refine lv_bipush (v := 7) hx hb dX9_change_67 (by decide) ?_
        refine lv_iload hx hb dX9_change_69 (lv_at hl 4 rfl) ?_
        refine lv_iadd hx hb dX9_change_71 ?_
        refine lv_iconst (v := 0) hx hb dX9_change_72 (by decide) ?_
        obtain ⟨i_M_15, M_15, e_M_15, hf⟩ := zw_some hf
        refine va_iast (n := 154) (f := M 10) (cA := cI) hx hb hK hP hD hS 9 0 rfl rfl i_M_15 dX9_change_73 (fun H locs hP hD hS => ?_)
        have hP : va_P D vwCl (w9 cI cB hM (zs M 10 (upd (M 10) ((7 : Int32) + l4).toNatClampNeg 0))) H := hP
        have hD : va_D A (w9 cI cB hM (zs M 10 (upd (M 10) ((7 : Int32) + l4).toNatClampNeg 0))) := hD
        rw [← e_M_15] at hP hD
        obtain ⟨x16, e_x16, hf⟩ := zv_some hf
        refine lv_iinc (v := x16) (lv' := [(4, .int x16), (0, .ref (hM 0)), (1, .int l1), (2, .int l2), (3, .int l3)]) hx hb dX9_change_74 hl (k := 4) rfl (by rw [e_x16]; rfl) (by decide) rfl (fun ls hl => ?_)
        refine lv_goto (tgt := 56) hx hb dX9_change_77 (by decide) ?_
        exact ih _ _ _ _ hf hk _ _ _ hP hD hS (lv_sub hl [1, 2, 3, 4, 0] rfl)
  unfold f_X9_change at hf
  refine lv_aload_n hx hb dX9_change_0 rfl (lv_at hl 0 rfl) ?_
  refine lv_iload_n hx hb dX9_change_1 rfl (lv_at hl 1 rfl) ?_
  obtain ⟨r1, hq2, hf⟩ := zb1_some hf
  refine zcallVi (ws2 := (w9 cI cB hM M)) (rest := []) ⟨hx, hb, hml, hown, hts⟩ (c_X9_isPart l D cI cB hM M a1 r1 hq2) (cwV 1 hts (z_gV hG wd_769 wd_771 wd_s26 wd_15 wd_772) rfl rfl rfl q_X9_isPart ⟨Nat.le_of_ble_eq_true rfl, Nat.le_of_ble_eq_true rfl⟩) hK hP hD hS hA 9 rfl rfl rfl [0, 5] [1, 2, 3, 4, 6, 7, 8, 9, 10, 11, 12, 13, 14, 15, 16, 17] rfl rfl rfl rfl rfl rfl rfl hl.1 (Nat.le_of_ble_eq_true rfl) dX9_change_2 ⟨Nat.zero_le _, Nat.zero_le _⟩ rfl (fun H locs hP hD hS => ?_)
  refine lv_if_eq (tgt := 21) hx hb dX9_change_5 (by decide) (fun c_3 => ?_) (fun c_3 => ?_)
  · replace hf := zit c_3 hf
    refine lv_iconst (v := (-1)) hx hb dX9_change_21 (by decide) ?_
    cases hf
    exact zretI hx hb hr hlocks hK hP hD hS dX9_change_22
  · replace hf := zif c_3 hf
    refine lv_aload_n hx hb dX9_change_8 rfl (lv_at hl 0 rfl) ?_
    refine lv_iload_n hx hb dX9_change_9 rfl (lv_at hl 2 rfl) ?_
    obtain ⟨r4, hq5, hf⟩ := zb1_some hf
    refine zcallVi (ws2 := (w9 cI cB hM M)) (rest := []) ⟨hx, hb, hml, hown, hts⟩ (c_X9_isPart l D cI cB hM M a2 r4 hq5) (cwV 1 hts (z_gV hG wd_769 wd_771 wd_s26 wd_15 wd_772) rfl rfl rfl q_X9_isPart ⟨Nat.le_of_ble_eq_true rfl, Nat.le_of_ble_eq_true rfl⟩) hK hP hD hS hA 9 rfl rfl rfl [0, 5] [1, 2, 3, 4, 6, 7, 8, 9, 10, 11, 12, 13, 14, 15, 16, 17] rfl rfl rfl rfl rfl rfl rfl hl.1 (Nat.le_of_ble_eq_true rfl) dX9_change_10 ⟨Nat.zero_le _, Nat.zero_le _⟩ rfl (fun H locs hP hD hS => ?_)
    refine lv_if_eq (tgt := 21) hx hb dX9_change_13 (by decide) (fun c_6 => ?_) (fun c_6 => ?_)
    · replace hf := zit c_6 hf
      refine lv_iconst (v := (-1)) hx hb dX9_change_21 (by decide) ?_
      cases hf
      exact zretI hx hb hr hlocks hK hP hD hS dX9_change_22
    · replace hf := zif c_6 hf
      refine lv_iload_n hx hb dX9_change_16 rfl (lv_at hl 1 rfl) ?_
      refine lv_iload_n hx hb dX9_change_17 rfl (lv_at hl 2 rfl) ?_
      refine lv_icmp_ne (tgt := 23) hx hb dX9_change_18 (by decide) (fun c_7 => ?_) (fun c_7 => ?_)
      · replace hf := zif c_7 hf
        refine lv_aload_n hx hb dX9_change_23 rfl (lv_at hl 0 rfl) ?_
        obtain ⟨M_8, hq9, hf⟩ := zb1_some hf
        refine zcallVv (ws2 := (w9 cI cB hM M_8)) (rest := []) ⟨hx, hb, hml, hown, hts⟩ (c_X9_known l D cI cB hM M M_8 hq9) (cwV 0 hts (z_gV hG wd_822 wd_824 wd_s34 wd_15 wd_825) rfl rfl rfl q_X9_known ⟨Nat.le_of_ble_eq_true rfl, Nat.le_of_ble_eq_true rfl⟩) hK hP hD hS hA 9 rfl rfl rfl [0, 1, 2, 3, 4, 5, 6, 7, 8, 9, 10, 11, 12, 13, 14, 15, 16, 17] [] rfl rfl rfl rfl rfl rfl rfl hl.1 (Nat.le_of_ble_eq_true rfl) dX9_change_24 ⟨Nat.zero_le _, Nat.zero_le _⟩ rfl (fun H locs hP hD hS => ?_)
        refine lv_aload_n hx hb dX9_change_27 rfl (lv_at hl 0 rfl) ?_
        refine va_get (D := D) (ci := 9) (v := .ref (hM 9)) (C := RX9) (T := TX9) (N := 23) hx hb hts hi9 hown hK hP 0 rfl rfl 10 (Nat.le_of_ble_eq_true rfl) (hts _ (List.mem_cons_of_mem _ wd_662)) (fun _ h9 => h9) rfl dX9_change_28 ?_
        refine lv_iload_n hx hb dX9_change_31 rfl (lv_at hl 1 rfl) ?_
        obtain ⟨i_v10, v10, e_v10, hf⟩ := zl_some hf
        refine va_iald (n := 154) (f := M_8 10) (cA := cI) hx hb hK hP 9 0 rfl rfl i_v10 dX9_change_32 ?_
        refine zt e_v10 ?_
        refine lv_istore_n (lv' := [(3, .int v10), (0, .ref (hM 0)), (1, .int a1), (2, .int a2)]) hx hb dX9_change_33 rfl hl (by decide) rfl (fun ls hl => ?_)
        refine lv_aload_n hx hb dX9_change_34 rfl (lv_at hl 1 rfl) ?_
        refine va_get (D := D) (ci := 9) (v := .ref (hM 9)) (C := RX9) (T := TX9) (N := 23) hx hb hts hi9 hown hK hP 0 rfl rfl 10 (Nat.le_of_ble_eq_true rfl) (hts _ (List.mem_cons_of_mem _ wd_662)) (fun _ h9 => h9) rfl dX9_change_35 ?_
        refine lv_iload_n hx hb dX9_change_38 rfl (lv_at hl 2 rfl) ?_
        refine lv_aload_n hx hb dX9_change_39 rfl (lv_at hl 1 rfl) ?_
        refine va_get (D := D) (ci := 9) (v := .ref (hM 9)) (C := RX9) (T := TX9) (N := 23) hx hb hts hi9 hown hK hP 0 rfl rfl 10 (Nat.le_of_ble_eq_true rfl) (hts _ (List.mem_cons_of_mem _ wd_662)) (fun _ h9 => h9) rfl dX9_change_40 ?_
        refine lv_iload_n hx hb dX9_change_43 rfl (lv_at hl 3 rfl) ?_
        obtain ⟨i_v11, v11, e_v11, hf⟩ := zl_some hf
        refine va_iald (n := 154) (f := M_8 10) (cA := cI) hx hb hK hP 9 0 rfl rfl i_v11 dX9_change_44 ?_
        refine zt e_v11 ?_
        obtain ⟨i_M_12, M_12, e_M_12, hf⟩ := zw_some hf
        refine va_iast (n := 154) (f := M_8 10) (cA := cI) hx hb hK hP hD hS 9 0 rfl rfl i_M_12 dX9_change_45 (fun H locs hP hD hS => ?_)
        have hP : va_P D vwCl (w9 cI cB hM (zs M_8 10 (upd (M_8 10) a1.toNatClampNeg v11))) H := hP
        have hD : va_D A (w9 cI cB hM (zs M_8 10 (upd (M_8 10) a1.toNatClampNeg v11))) := hD
        rw [← e_M_12] at hP hD
        refine lv_aload_n hx hb dX9_change_46 rfl (lv_at hl 1 rfl) ?_
        refine va_get (D := D) (ci := 9) (v := .ref (hM 9)) (C := RX9) (T := TX9) (N := 23) hx hb hts hi9 hown hK hP 0 rfl rfl 10 (Nat.le_of_ble_eq_true rfl) (hts _ (List.mem_cons_of_mem _ wd_662)) (fun _ h9 => h9) rfl dX9_change_47 ?_
        refine lv_iload_n hx hb dX9_change_50 rfl (lv_at hl 3 rfl) ?_
        refine lv_iload_n hx hb dX9_change_51 rfl (lv_at hl 0 rfl) ?_
        obtain ⟨i_M_13, M_13, e_M_13, hf⟩ := zw_some hf
        refine va_iast (n := 154) (f := M_12 10) (cA := cI) hx hb hK hP hD hS 9 0 rfl rfl i_M_13 dX9_change_52 (fun H locs hP hD hS => ?_)
        have hP : va_P D vwCl (w9 cI cB hM (zs M_12 10 (upd (M_12 10) a2.toNatClampNeg v10))) H := hP
        have hD : va_D A (w9 cI cB hM (zs M_12 10 (upd (M_12 10) a2.toNatClampNeg v10))) := hD
        rw [← e_M_13] at hP hD
        refine lv_iconst (v := 0) hx hb dX9_change_53 (by decide) ?_
        refine lv_istore (lv' := [(4, .int 0), (3, .int v10), (0, .ref (hM 0)), (1, .int a1), (2, .int a2)]) hx hb dX9_change_54 hl (by decide) rfl (fun ls hl => ?_)
        obtain ⟨x17, M_18, hq19, hf⟩ := zb2_some hf
        refine L56 _ _ _ _ _ _ _ _ hq19 ?_ _ _ _ hP hD hS (lv_sub hl [2, 3, 4, 1, 0] rfl)
        intro H locs ls hP hD hS hl
        refine lv_aload_n hx hb dX9_change_80 rfl (lv_at hl 0 rfl) ?_
        obtain ⟨M_20, hq21, hf⟩ := zb1_some hf
        refine zcallVv (ws2 := (w9 cI cB hM M_20)) (rest := []) ⟨hx, hb, hml, hown, hts⟩ (c_X9_lengths l D cI cB hM M_18 M_20 hq21) (cwV 0 hts (z_gV hG wd_798 wd_800 wd_s30 wd_15 wd_801) rfl rfl rfl q_X9_lengths ⟨Nat.le_of_ble_eq_true rfl, Nat.le_of_ble_eq_true rfl⟩) hK hP hD hS hA 9 rfl rfl rfl [0, 1, 2, 3, 4, 5, 6, 7, 8, 9, 10, 11, 12, 13, 14, 15, 16, 17] [] rfl rfl rfl rfl rfl rfl rfl hl.1 (Nat.le_of_ble_eq_true rfl) dX9_change_81 ⟨Nat.zero_le _, Nat.zero_le _⟩ rfl (fun H locs hP hD hS => ?_)
        refine lv_aload_n hx hb dX9_change_84 rfl (lv_at hl 0 rfl) ?_
        obtain ⟨r22, hq23, hf⟩ := zb1_some hf
        refine zcallVi (ws2 := (w9 cI cB hM M_20)) (rest := []) ⟨hx, hb, hml, hown, hts⟩ (c_X9_gaps l D cI cB hM M_20 r22 hq23) (cwV 0 hts (z_gV hG wd_802 wd_804 wd_s31 wd_15 wd_805) rfl rfl rfl q_X9_gaps ⟨Nat.le_of_ble_eq_true rfl, Nat.le_of_ble_eq_true rfl⟩) hK hP hD hS hA 9 rfl rfl rfl [0, 7, 8, 14] [1, 2, 3, 4, 5, 6, 9, 10, 11, 12, 13, 15, 16, 17] rfl rfl rfl rfl rfl rfl rfl hl.1 (Nat.le_of_ble_eq_true rfl) dX9_change_85 ⟨Nat.zero_le _, Nat.zero_le _⟩ rfl (fun H locs hP hD hS => ?_)
        cases hf
        exact zretI hx hb hr hlocks hK hP hD hS dX9_change_88
      · replace hf := zit c_7 hf
        refine lv_iconst (v := (-1)) hx hb dX9_change_21 (by decide) ?_
        cases hf
        exact zretI hx hb hr hlocks hK hP hD hS dX9_change_22
def f_X9_alter (M : zMm) (a1 : Int32) (a2 : Int32) : Option (Int32 × zMm) := zb1 (f_X9_isPart M a1) (fun (r1 : Int32) => if r1 = 0 then some (((-1) : Int32), M) else zb1 (f_X9_in (a2.toInt64) (-9) 9) (fun (r4 : Int32) => if r4 = 0 then some (((-1) : Int32), M) else zb1 (f_X9_part M a1 6) (fun (r7 : Int32) => zv (r7 + a2) (fun (x9 : Int32) => zb1 (f_X9_in (x9.toInt64) 1 299) (fun (r10 : Int32) => if r10 = 0 then some (((-2) : Int32), M) else zb1 (f_X9_known M) (fun (M_13 : zMm) => zl 154 (M_13 10) ((7 : Int32) + a1) (fun v15 => zw 154 M_13 10 ((7 : Int32) + a1) (v15 + a2) (fun M_16 => some (x9, M_16)))))))))
abbrev ww_X9_alter : List Cond := Cond.code yX9_alter cX9_alter 4 (some .int) :: wG
theorem q_X9_alter : yX9_alter.cls = RX9 ∧ yX9_alter.cls ≠ "java/lang/invoke/MethodHandle" ∧ yX9_alter.cls ≠ "java/lang/invoke/VarHandle" ∧ (parseMethodDescriptor yX9_alter.desc).map (fun d => d.parameters.length) = some 2 := by decide +kernel
set_option maxHeartbeats 4000000 in
set_option maxRecDepth 100000 in
theorem c_X9_alter (l : Launch) (D : va_G) (cI cB : ClassId) (hM : Nat → Nat) (M : zMm) (a1 : Int32) (a2 : Int32) (r0 : Int32) (M0 : zMm) (hf : f_X9_alter M a1 a2 = some (r0, M0)) : zMi l yX9_alter ww_X9_alter ({ frames := 3, cells := 0, slots := 0, locals := 68 } : Room) D cI cB [.ref (hM 0), .int a1, .int a2] (w9 cI cB hM M) r0 (w9 cI cB hM M0) := by
  refine zofI (cc := cX9_alter) (maxL := 4) (ret := (some .int)) (by decide +kernel) rfl (Nat.le_of_ble_eq_true rfl) ?_
  intro p e s m below meth c A ls hx hb hml hr hown hts hlocks hK hP hD hS hA hl
  have hl : lv_has ls 4 [(0, .ref (hM 0)), (1, .int a1), (2, .int a2)] := hl
  have hown : s.vm.findClass RX9 = some m.cls := hown
  have hG : ∀ w ∈ wG, w ∈ ww_X9_alter := fun w h => List.mem_cons_of_mem _ h
  have hi9 : ∀ w ∈ wsX90, w ∈ ww_X9_alter := fun w h => List.mem_cons_of_mem _ (z_inX9 w h)
  unfold f_X9_alter at hf
  refine lv_aload_n hx hb dX9_alter_0 rfl (lv_at hl 0 rfl) ?_
  refine lv_iload_n hx hb dX9_alter_1 rfl (lv_at hl 1 rfl) ?_
  obtain ⟨r1, hq2, hf⟩ := zb1_some hf
  refine zcallVi (ws2 := (w9 cI cB hM M)) (rest := []) ⟨hx, hb, hml, hown, hts⟩ (c_X9_isPart l D cI cB hM M a1 r1 hq2) (cwV 1 hts (z_gV hG wd_769 wd_771 wd_s26 wd_15 wd_772) rfl rfl rfl q_X9_isPart ⟨Nat.le_of_ble_eq_true rfl, Nat.le_of_ble_eq_true rfl⟩) hK hP hD hS hA 9 rfl rfl rfl [0, 5] [1, 2, 3, 4, 6, 7, 8, 9, 10, 11, 12, 13, 14, 15, 16, 17] rfl rfl rfl rfl rfl rfl rfl hl.1 (Nat.le_of_ble_eq_true rfl) dX9_alter_2 ⟨Nat.zero_le _, Nat.zero_le _⟩ rfl (fun H locs hP hD hS => ?_)
  refine lv_if_eq (tgt := 22) hx hb dX9_alter_5 (by decide) (fun c_3 => ?_) (fun c_3 => ?_)
  · replace hf := zit c_3 hf
    refine lv_iconst (v := (-1)) hx hb dX9_alter_22 (by decide) ?_
    cases hf
    exact zretI hx hb hr hlocks hK hP hD hS dX9_alter_23
  · replace hf := zif c_3 hf
    refine lv_iload_n hx hb dX9_alter_8 rfl (lv_at hl 2 rfl) ?_
    refine lv_i2l hx hb dX9_alter_9 rfl ?_
    refine lv_ldc2 (v := (-9)) hx hb hown (hts _ (List.mem_cons_of_mem _ wd_834)) dX9_alter_10 ?_
    refine lv_ldc2 (v := 9) hx hb hown (hts _ (List.mem_cons_of_mem _ wd_835)) dX9_alter_13 ?_
    obtain ⟨r4, hq5, hf⟩ := zb1_some hf
    refine zcallSi (rest := []) ⟨hx, hb, hml, hown, hts⟩ (c_X9_in l D cI cB (a2.toInt64) (-9) 9 r4 hq5) (z_cwS 3 hts (z_gS hG wd_727 wd_728 wd_15 wd_729) rfl rfl rfl q_X9_in ⟨Nat.le_of_ble_eq_true rfl, Nat.le_of_ble_eq_true rfl⟩) hK hP hD hS hA rfl hl.1 (Nat.le_of_ble_eq_true rfl) dX9_alter_16 ⟨Nat.zero_le _, Nat.zero_le _⟩ rfl (fun H locs hP hD hS => ?_)
    refine lv_if_ne (tgt := 24) hx hb dX9_alter_19 (by decide) (fun c_6 => ?_) (fun c_6 => ?_)
    · replace hf := zif c_6 hf
      refine lv_aload_n hx hb dX9_alter_24 rfl (lv_at hl 0 rfl) ?_
      refine lv_iload_n hx hb dX9_alter_25 rfl (lv_at hl 1 rfl) ?_
      refine lv_bipush (v := 6) hx hb dX9_alter_26 (by decide) ?_
      obtain ⟨r7, hq8, hf⟩ := zb1_some hf
      refine zcallVi (ws2 := (w9 cI cB hM M)) (rest := []) ⟨hx, hb, hml, hown, hts⟩ (c_X9_part l D cI cB hM M a1 6 r7 hq8) (cwV 2 hts (z_gV hG wd_836 wd_766 wd_767 wd_15 wd_768) rfl rfl rfl q_X9_part ⟨Nat.le_of_ble_eq_true rfl, Nat.le_of_ble_eq_true rfl⟩) hK hP hD hS hA 9 rfl rfl rfl [0, 2, 4, 5, 6, 9] [1, 3, 7, 8, 10, 11, 12, 13, 14, 15, 16, 17] rfl rfl rfl rfl rfl rfl rfl hl.1 (Nat.le_of_ble_eq_true rfl) dX9_alter_28 ⟨Nat.zero_le _, Nat.zero_le _⟩ rfl (fun H locs hP hD hS => ?_)
      refine lv_iload_n hx hb dX9_alter_31 rfl (lv_at hl 2 rfl) ?_
      refine lv_iadd hx hb dX9_alter_32 ?_
      obtain ⟨x9, e_x9, hf⟩ := zv_some hf
      refine zt e_x9 ?_
      refine lv_istore_n (lv' := [(3, .int x9), (0, .ref (hM 0)), (1, .int a1), (2, .int a2)]) hx hb dX9_alter_33 rfl hl (by decide) rfl (fun ls hl => ?_)
      refine lv_iload_n hx hb dX9_alter_34 rfl (lv_at hl 0 rfl) ?_
      refine lv_i2l hx hb dX9_alter_35 rfl ?_
      refine lv_lconst (v := 1) hx hb dX9_alter_36 (by decide) ?_
      refine lv_ldc2 (v := 299) hx hb hown (hts _ (List.mem_cons_of_mem _ wd_837)) dX9_alter_37 ?_
      obtain ⟨r10, hq11, hf⟩ := zb1_some hf
      refine zcallSi (rest := []) ⟨hx, hb, hml, hown, hts⟩ (c_X9_in l D cI cB (x9.toInt64) 1 299 r10 hq11) (z_cwS 3 hts (z_gS hG wd_727 wd_728 wd_15 wd_729) rfl rfl rfl q_X9_in ⟨Nat.le_of_ble_eq_true rfl, Nat.le_of_ble_eq_true rfl⟩) hK hP hD hS hA rfl hl.1 (Nat.le_of_ble_eq_true rfl) dX9_alter_40 ⟨Nat.zero_le _, Nat.zero_le _⟩ rfl (fun H locs hP hD hS => ?_)
      refine lv_if_ne (tgt := 49) hx hb dX9_alter_43 (by decide) (fun c_12 => ?_) (fun c_12 => ?_)
      · replace hf := zif c_12 hf
        refine lv_aload_n hx hb dX9_alter_49 rfl (lv_at hl 1 rfl) ?_
        obtain ⟨M_13, hq14, hf⟩ := zb1_some hf
        refine zcallVv (ws2 := (w9 cI cB hM M_13)) (rest := []) ⟨hx, hb, hml, hown, hts⟩ (c_X9_known l D cI cB hM M M_13 hq14) (cwV 0 hts (z_gV hG wd_822 wd_824 wd_s34 wd_15 wd_825) rfl rfl rfl q_X9_known ⟨Nat.le_of_ble_eq_true rfl, Nat.le_of_ble_eq_true rfl⟩) hK hP hD hS hA 9 rfl rfl rfl [0, 1, 2, 3, 4, 5, 6, 7, 8, 9, 10, 11, 12, 13, 14, 15, 16, 17] [] rfl rfl rfl rfl rfl rfl rfl hl.1 (Nat.le_of_ble_eq_true rfl) dX9_alter_50 ⟨Nat.zero_le _, Nat.zero_le _⟩ rfl (fun H locs hP hD hS => ?_)
        refine lv_aload_n hx hb dX9_alter_53 rfl (lv_at hl 1 rfl) ?_
        refine va_get (D := D) (ci := 9) (v := .ref (hM 9)) (C := RX9) (T := TX9) (N := 23) hx hb hts hi9 hown hK hP 0 rfl rfl 10 (Nat.le_of_ble_eq_true rfl) (hts _ (List.mem_cons_of_mem _ wd_662)) (fun _ h9 => h9) rfl dX9_alter_54 ?_
        refine lv_bipush (v := 7) hx hb dX9_alter_57 (by decide) ?_
        refine lv_iload_n hx hb dX9_alter_59 rfl (lv_at hl 2 rfl) ?_
        refine lv_iadd hx hb dX9_alter_60 ?_
        refine lv_dup2_11 hx hb dX9_alter_61 rfl rfl ?_
        obtain ⟨i_v15, v15, e_v15, hf⟩ := zl_some hf
        refine va_iald (n := 154) (f := M_13 10) (cA := cI) hx hb hK hP 9 0 rfl rfl i_v15 dX9_alter_62 ?_
        refine zt e_v15 ?_
        refine lv_iload_n hx hb dX9_alter_63 rfl (lv_at hl 3 rfl) ?_
        refine lv_iadd hx hb dX9_alter_64 ?_
        obtain ⟨i_M_16, M_16, e_M_16, hf⟩ := zw_some hf
        refine va_iast (n := 154) (f := M_13 10) (cA := cI) hx hb hK hP hD hS 9 0 rfl rfl i_M_16 dX9_alter_65 (fun H locs hP hD hS => ?_)
        have hP : va_P D vwCl (w9 cI cB hM (zs M_13 10 (upd (M_13 10) ((7 : Int32) + a1).toNatClampNeg (v15 + a2)))) H := hP
        have hD : va_D A (w9 cI cB hM (zs M_13 10 (upd (M_13 10) ((7 : Int32) + a1).toNatClampNeg (v15 + a2)))) := hD
        rw [← e_M_16] at hP hD
        refine lv_iload_n hx hb dX9_alter_66 rfl (lv_at hl 0 rfl) ?_
        cases hf
        exact zretI hx hb hr hlocks hK hP hD hS dX9_alter_67
      · replace hf := zit c_12 hf
        refine lv_bipush (v := (-2)) hx hb dX9_alter_46 (by decide) ?_
        cases hf
        exact zretI hx hb hr hlocks hK hP hD hS dX9_alter_48
    · replace hf := zit c_6 hf
      refine lv_iconst (v := (-1)) hx hb dX9_alter_22 (by decide) ?_
      cases hf
      exact zretI hx hb hr hlocks hK hP hD hS dX9_alter_23
def f_X9_undo (M : zMm) : Option (Int32 × zMm) := if (M 12 0) = 0 then some (((-2) : Int32), M) else zv (zs M 12 (fun _ => (M 12 0) - 1)) (fun (M_2 : zMm) => zb1 (f_X9_copies M_2 ((3 : Int32) + (M_2 12 0)) 0) (fun (M_3 : zMm) => some (M_3 12 0, M_3)))
abbrev ww_X9_undo : List Cond := Cond.code yX9_undo cX9_undo 1 (some .int) :: wG
theorem q_X9_undo : yX9_undo.cls = RX9 ∧ yX9_undo.cls ≠ "java/lang/invoke/MethodHandle" ∧ yX9_undo.cls ≠ "java/lang/invoke/VarHandle" ∧ (parseMethodDescriptor yX9_undo.desc).map (fun d => d.parameters.length) = some 0 := by decide +kernel
set_option maxHeartbeats 4000000 in
set_option maxRecDepth 100000 in
theorem c_X9_undo (l : Launch) (D : va_G) (cI cB : ClassId) (hM : Nat → Nat) (M : zMm) (r0 : Int32) (M0 : zMm) (hf : f_X9_undo M = some (r0, M0)) : zMi l yX9_undo ww_X9_undo ({ frames := 1, cells := 0, slots := 0, locals := 23 } : Room) D cI cB [.ref (hM 0)] (w9 cI cB hM M) r0 (w9 cI cB hM M0) := by
  refine zofI (cc := cX9_undo) (maxL := 1) (ret := (some .int)) (by decide +kernel) rfl (Nat.le_of_ble_eq_true rfl) ?_
  intro p e s m below meth c A ls hx hb hml hr hown hts hlocks hK hP hD hS hA hl
  have hl : lv_has ls 1 [(0, .ref (hM 0))] := hl
  have hown : s.vm.findClass RX9 = some m.cls := hown
  have hG : ∀ w ∈ wG, w ∈ ww_X9_undo := fun w h => List.mem_cons_of_mem _ h
  have hi9 : ∀ w ∈ wsX90, w ∈ ww_X9_undo := fun w h => List.mem_cons_of_mem _ (z_inX9 w h)
  unfold f_X9_undo at hf
  refine lv_aload_n hx hb dX9_undo_0 rfl (lv_at hl 0 rfl) ?_
  refine va_get (D := D) (ci := 9) (v := .int (M 12 0)) (C := RX9) (T := TX9) (N := 23) hx hb hts hi9 hown hK hP 0 rfl rfl 12 (Nat.le_of_ble_eq_true rfl) (hts _ (List.mem_cons_of_mem _ wd_664)) (fun _ h9 => h9) rfl dX9_undo_1 ?_
  refine lv_if_ne (tgt := 10) hx hb dX9_undo_4 (by decide) (fun c_1 => ?_) (fun c_1 => ?_)
  · replace hf := zif c_1 hf
    refine lv_aload_n hx hb dX9_undo_10 rfl (lv_at hl 0 rfl) ?_
    refine lv_dup hx hb dX9_undo_11 rfl ?_
    refine va_get (D := D) (ci := 9) (v := .int (M 12 0)) (C := RX9) (T := TX9) (N := 23) hx hb hts hi9 hown hK hP 0 rfl rfl 12 (Nat.le_of_ble_eq_true rfl) (hts _ (List.mem_cons_of_mem _ wd_664)) (fun _ h9 => h9) rfl dX9_undo_12 ?_
    refine lv_iconst (v := 1) hx hb dX9_undo_15 (by decide) ?_
    refine lv_isub hx hb dX9_undo_16 ?_
    obtain ⟨M_2, e_M_2, hf⟩ := zv_some hf
    refine va_put (D := D) (ci := 9) (v := .int ((M 12 0) - 1)) (ty := .int) (C := RX9) (T := TX9) (N := 23) hx hb hts hi9 tyX9 tyX9_ok nmX9 hown hK hP hD hS 0 rfl rfl 12 (Nat.le_of_ble_eq_true rfl) (hts _ (List.mem_cons_of_mem _ wd_664)) (fun _ h9 => h9) rfl (by decide +kernel) rfl rfl (Nat.le_of_ble_eq_true rfl) dX9_undo_17 (fun H locs hP hD hS => ?_)
    have hP : va_P D vwCl (w9 cI cB hM (zs M 12 (fun _ => (M 12 0) - 1))) H := hP
    have hD : va_D A (w9 cI cB hM (zs M 12 (fun _ => (M 12 0) - 1))) := hD
    rw [← e_M_2] at hP hD
    refine lv_aload_n hx hb dX9_undo_20 rfl (lv_at hl 0 rfl) ?_
    refine lv_iconst (v := 3) hx hb dX9_undo_21 (by decide) ?_
    refine lv_aload_n hx hb dX9_undo_22 rfl (lv_at hl 0 rfl) ?_
    refine va_get (D := D) (ci := 9) (v := .int (M_2 12 0)) (C := RX9) (T := TX9) (N := 23) hx hb hts hi9 hown hK hP 0 rfl rfl 12 (Nat.le_of_ble_eq_true rfl) (hts _ (List.mem_cons_of_mem _ wd_664)) (fun _ h9 => h9) rfl dX9_undo_23 ?_
    refine lv_iadd hx hb dX9_undo_26 ?_
    refine lv_iconst (v := 0) hx hb dX9_undo_27 (by decide) ?_
    obtain ⟨M_3, hq4, hf⟩ := zb1_some hf
    refine zcallVv (ws2 := (w9 cI cB hM M_3)) (rest := []) ⟨hx, hb, hml, hown, hts⟩ (c_X9_copies l D cI cB hM M_2 ((3 : Int32) + (M_2 12 0)) 0 M_3 hq4) (cwV 2 hts (z_gV hG wd_826 wd_828 wd_s35 wd_15 wd_829) rfl rfl rfl q_X9_copies ⟨Nat.le_of_ble_eq_true rfl, Nat.le_of_ble_eq_true rfl⟩) hK hP hD hS hA 9 rfl rfl rfl [0, 1, 2, 3, 4, 5, 6, 7, 8, 9, 10, 11, 12, 13, 14, 15, 16, 17] [] rfl rfl rfl rfl rfl rfl rfl hl.1 (Nat.le_of_ble_eq_true rfl) dX9_undo_28 ⟨Nat.zero_le _, Nat.zero_le _⟩ rfl (fun H locs hP hD hS => ?_)
    refine lv_aload_n hx hb dX9_undo_31 rfl (lv_at hl 0 rfl) ?_
    refine va_get (D := D) (ci := 9) (v := .int (M_3 12 0)) (C := RX9) (T := TX9) (N := 23) hx hb hts hi9 hown hK hP 0 rfl rfl 12 (Nat.le_of_ble_eq_true rfl) (hts _ (List.mem_cons_of_mem _ wd_664)) (fun _ h9 => h9) rfl dX9_undo_32 ?_
    cases hf
    exact zretI hx hb hr hlocks hK hP hD hS dX9_undo_35
  · replace hf := zit c_1 hf
    refine lv_bipush (v := (-2)) hx hb dX9_undo_7 (by decide) ?_
    cases hf
    exact zretI hx hb hr hlocks hK hP hD hS dX9_undo_9
