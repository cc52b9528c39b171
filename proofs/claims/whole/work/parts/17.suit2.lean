def f_X8_order (M : zMm) (a1 : Int32) : Option (Int32 × zMm) := if a1 = (-1) then zb1 (if (M 23 0) = 0 then zb1 (f_X3_search (fun j => M (22 + j)) (fun j => M (35 + j))) (fun (M_6 : zMm) => zv (zp M 22 6 M_6) (fun (M_8 : zMm) => some M_8)) else some M) (fun (M_3 : zMm) => if a1 = (-1) then some (M_3 24 0, M_3) else zl 7 (M_3 22) a1 (fun v10 => some (v10, M_3))) else zb1 (f_X5_hasPart (fun j => M (35 + j)) a1) (fun (r11 : Int32) => if r11 = 0 then some (((-1) : Int32), M) else zb1 (if (M 23 0) = 0 then zb1 (f_X3_search (fun j => M (22 + j)) (fun j => M (35 + j))) (fun (M_18 : zMm) => zv (zp M 22 6 M_18) (fun (M_20 : zMm) => some M_20)) else some M) (fun (M_15 : zMm) => if a1 = (-1) then some (M_15 24 0, M_15) else zl 7 (M_15 22) a1 (fun v22 => some (v22, M_15))))
abbrev ww_X8_order : List Cond := Cond.code yX8_order cX8_order 2 (some .int) :: wG
theorem q_X8_order : yX8_order.cls = RX8 ∧ yX8_order.cls ≠ "java/lang/invoke/MethodHandle" ∧ yX8_order.cls ≠ "java/lang/invoke/VarHandle" ∧ (parseMethodDescriptor yX8_order.desc).map (fun d => d.parameters.length) = some 1 := by decide +kernel
set_option maxHeartbeats 4000000 in
set_option maxRecDepth 100000 in
theorem c_X8_order (l : Launch) (D : va_G) (cI cB : ClassId) (hM : Nat → Nat) (M : zMm) (a1 : Int32) (r0 : Int32) (M0 : zMm) (hf : f_X8_order M a1 = some (r0, M0)) : zMi l yX8_order ww_X8_order ({ frames := 24, cells := 0, slots := 0, locals := 705 } : Room) D cI cB [.ref (hM 0), .int a1] (w8 cI cB hM M) r0 (w8 cI cB hM M0) := by
  refine zofI (cc := cX8_order) (maxL := 2) (ret := (some .int)) (by decide +kernel) rfl (Nat.le_of_ble_eq_true rfl) ?_
  intro p e s m below meth c A ls hx hb hml hr hown hts hlocks hK hP hD hS hA hl
  have hl : lv_has ls 2 [(0, .ref (hM 0)), (1, .int a1)] := hl
  have hown : s.vm.findClass RX8 = some m.cls := hown
  have hG : ∀ w ∈ wG, w ∈ ww_X8_order := fun w h => List.mem_cons_of_mem _ h
  have hi3 : ∀ w ∈ wsX30, w ∈ ww_X8_order := fun w h => List.mem_cons_of_mem _ (z_inX3 w h)
  have hi8 : ∀ w ∈ wsX80, w ∈ ww_X8_order := fun w h => List.mem_cons_of_mem _ (z_inX8 w h)
  unfold f_X8_order at hf
  refine lv_iload_n hx hb dX8_order_0 rfl (lv_at hl 1 rfl) ?_
  refine lv_iconst (v := (-1)) hx hb dX8_order_1 (by decide) ?_
  refine lv_icmp_eq (tgt := 18) hx hb dX8_order_2 (by decide) (fun c_1 => ?_) (fun c_1 => ?_)
  · replace hf := zit c_1 hf
    refine lv_aload_n hx hb dX8_order_18 rfl (lv_at hl 0 rfl) ?_
    refine va_get (D := D) (ci := 8) (v := .ref (hM 20)) (C := RX8) (T := TX8) (N := 14) hx hb hts hi8 hown hK hP 0 rfl rfl 6 (Nat.le_of_ble_eq_true rfl) (hts _ (List.mem_cons_of_mem _ wd_349)) (fun _ h9 => h9) rfl dX8_order_19 ?_
    refine va_get (D := D) (ci := 3) (v := .int (M 23 0)) (C := RX3) (T := TX3) (N := 6) hx hb hts hi3 hown hK hP 20 rfl rfl 1 (Nat.le_of_ble_eq_true rfl) (hts _ (List.mem_cons_of_mem _ wd_136)) (fun _ h9 => h9) rfl dX8_order_22 ?_
    obtain ⟨M_3, hq4, hf⟩ := zb1_some hf
    have J5 : zAt p l e ({ frames := 24, cells := 0, slots := 0, locals := 705 } : Room) s m [.ref (hM 0), .int a1].toArray below meth c (MQ below (zQi D cI cB r0 (w8 cI cB hM M0) A) [.ref (hM 0), .int a1].toArray s 0 0 A) A D 2 (w8 cI cB hM M_3) [(0, .ref (hM 0)), (1, .int a1)] 39 [] := by
      intro H locs ls hP hD hS hl
      refine lv_iload_n hx hb dX8_order_39 rfl (lv_at hl 1 rfl) ?_
      refine lv_iconst (v := (-1)) hx hb dX8_order_40 (by decide) ?_
      refine lv_icmp_ne (tgt := 54) hx hb dX8_order_41 (by decide) (fun c_9 => ?_) (fun c_9 => ?_)
      · replace hf := zif c_9 hf
        refine lv_aload_n hx hb dX8_order_54 rfl (lv_at hl 0 rfl) ?_
        refine va_get (D := D) (ci := 8) (v := .ref (hM 20)) (C := RX8) (T := TX8) (N := 14) hx hb hts hi8 hown hK hP 0 rfl rfl 6 (Nat.le_of_ble_eq_true rfl) (hts _ (List.mem_cons_of_mem _ wd_349)) (fun _ h9 => h9) rfl dX8_order_55 ?_
        refine va_get (D := D) (ci := 3) (v := .ref (hM 21)) (C := RX3) (T := TX3) (N := 6) hx hb hts hi3 hown hK hP 20 rfl rfl 0 (Nat.le_of_ble_eq_true rfl) (hts _ (List.mem_cons_of_mem _ wd_134)) (fun _ h9 => h9) rfl dX8_order_58 ?_
        refine lv_iload_n hx hb dX8_order_61 rfl (lv_at hl 1 rfl) ?_
        obtain ⟨i_v10, v10, e_v10, hf⟩ := zl_some hf
        refine va_iald (n := 7) (f := M_3 22) (cA := cI) hx hb hK hP 21 0 rfl rfl i_v10 dX8_order_62 ?_
        refine zt e_v10 ?_
        cases hf
        exact zretI hx hb hr hlocks hK hP hD hS dX8_order_63
      · replace hf := zit c_9 hf
        refine lv_aload_n hx hb dX8_order_44 rfl (lv_at hl 0 rfl) ?_
        refine va_get (D := D) (ci := 8) (v := .ref (hM 20)) (C := RX8) (T := TX8) (N := 14) hx hb hts hi8 hown hK hP 0 rfl rfl 6 (Nat.le_of_ble_eq_true rfl) (hts _ (List.mem_cons_of_mem _ wd_349)) (fun _ h9 => h9) rfl dX8_order_45 ?_
        refine va_get (D := D) (ci := 3) (v := .int (M_3 24 0)) (C := RX3) (T := TX3) (N := 6) hx hb hts hi3 hown hK hP 20 rfl rfl 2 (Nat.le_of_ble_eq_true rfl) (hts _ (List.mem_cons_of_mem _ wd_138)) (fun _ h9 => h9) rfl dX8_order_48 ?_
        refine lv_goto (tgt := 63) hx hb dX8_order_51 (by decide) ?_
        cases hf
        exact zretI hx hb hr hlocks hK hP hD hS dX8_order_63
    replace hf := hq4
    refine lv_if_ne (tgt := 39) hx hb dX8_order_25 (by decide) (fun c_2 => ?_) (fun c_2 => ?_)
    · replace hf := zif c_2 hf
      cases hf
      exact J5 _ _ _ hP hD hS (lv_sub hl [0, 1] rfl)
    · replace hf := zit c_2 hf
      refine lv_aload_n hx hb dX8_order_28 rfl (lv_at hl 0 rfl) ?_
      refine va_get (D := D) (ci := 8) (v := .ref (hM 20)) (C := RX8) (T := TX8) (N := 14) hx hb hts hi8 hown hK hP 0 rfl rfl 6 (Nat.le_of_ble_eq_true rfl) (hts _ (List.mem_cons_of_mem _ wd_349)) (fun _ h9 => h9) rfl dX8_order_29 ?_
      refine lv_aload_n hx hb dX8_order_32 rfl (lv_at hl 0 rfl) ?_
      refine va_get (D := D) (ci := 8) (v := .ref (hM 31)) (C := RX8) (T := TX8) (N := 14) hx hb hts hi8 hown hK hP 0 rfl rfl 12 (Nat.le_of_ble_eq_true rfl) (hts _ (List.mem_cons_of_mem _ wd_355)) (fun _ h9 => h9) rfl dX8_order_33 ?_
      obtain ⟨M_6, hq7, hf⟩ := zb1_some hf
      refine zcallVv (ws2 := (w8 cI cB hM (zp M 22 6 M_6))) (rest := []) ⟨hx, hb, hml, hown, hts⟩ (c_X3_search l D cI cB (fun j => hM (20 + j)) (fun j => hM (31 + j)) (fun j => M (22 + j)) (fun j => M (35 + j)) M_6 hq7) (cwV 1 hts (z_gV hG wd_503 wd_504 wd_505 wd_8 wd_506) rfl rfl rfl q_X3_search ⟨Nat.le_of_ble_eq_true rfl, Nat.le_of_ble_eq_true rfl⟩) hK hP hD hS hA 3 rfl rfl rfl [20, 21, 22, 23, 31, 32, 33, 34, 36, 37] [0, 1, 2, 3, 4, 5, 6, 7, 8, 9, 10, 11, 12, 13, 14, 15, 16, 17, 18, 19, 24, 25, 26, 27, 28, 29, 30, 35, 38, 39, 40, 41, 42, 43, 44] rfl rfl rfl (z_em ⟨rfl, rfl, rfl, rfl, rfl, rfl, rfl, rfl, rfl, rfl, rfl, rfl, rfl, rfl, rfl, rfl, rfl, rfl, rfl, rfl, rfl, rfl, rfl, rfl, rfl, rfl, rfl, rfl, rfl, rfl, rfl, rfl, rfl, rfl, rfl, trivial⟩) rfl rfl rfl hl.1 (Nat.le_of_ble_eq_true rfl) dX8_order_36 ⟨Nat.zero_le _, Nat.zero_le _⟩ rfl (fun H locs hP hD hS => ?_)
      obtain ⟨M_8, e_M_8, hf⟩ := zv_some hf
      rw [← e_M_8] at hP hD
      cases hf
      exact J5 _ _ _ hP hD hS (lv_sub hl [0, 1] rfl)
  · replace hf := zif c_1 hf
    refine lv_aload_n hx hb dX8_order_5 rfl (lv_at hl 0 rfl) ?_
    refine va_get (D := D) (ci := 8) (v := .ref (hM 31)) (C := RX8) (T := TX8) (N := 14) hx hb hts hi8 hown hK hP 0 rfl rfl 12 (Nat.le_of_ble_eq_true rfl) (hts _ (List.mem_cons_of_mem _ wd_355)) (fun _ h9 => h9) rfl dX8_order_6 ?_
    refine lv_iload_n hx hb dX8_order_9 rfl (lv_at hl 1 rfl) ?_
    obtain ⟨r11, hq12, hf⟩ := zb1_some hf
    refine zcallVi (ws2 := (w8 cI cB hM M)) (rest := []) ⟨hx, hb, hml, hown, hts⟩ (c_X5_hasPart l D cI cB (fun j => hM (31 + j)) (fun j => M (35 + j)) a1 r11 hq12) (cwV 1 hts (z_gV hG wd_411 wd_328 wd_329 wd_10 wd_330) rfl rfl rfl q_X5_hasPart ⟨Nat.le_of_ble_eq_true rfl, Nat.le_of_ble_eq_true rfl⟩) hK hP hD hS hA 5 rfl rfl rfl [31] [0, 1, 2, 3, 4, 5, 6, 7, 8, 9, 10, 11, 12, 13, 14, 15, 16, 17, 18, 19, 20, 21, 22, 23, 24, 25, 26, 27, 28, 29, 30, 32, 33, 34, 35, 36, 37, 38, 39, 40, 41, 42, 43, 44] rfl rfl rfl rfl rfl rfl rfl hl.1 (Nat.le_of_ble_eq_true rfl) dX8_order_10 ⟨Nat.zero_le _, Nat.zero_le _⟩ rfl (fun H locs hP hD hS => ?_)
    refine lv_if_ne (tgt := 18) hx hb dX8_order_13 (by decide) (fun c_13 => ?_) (fun c_13 => ?_)
    · replace hf := zif c_13 hf
      refine lv_aload_n hx hb dX8_order_18 rfl (lv_at hl 0 rfl) ?_
      refine va_get (D := D) (ci := 8) (v := .ref (hM 20)) (C := RX8) (T := TX8) (N := 14) hx hb hts hi8 hown hK hP 0 rfl rfl 6 (Nat.le_of_ble_eq_true rfl) (hts _ (List.mem_cons_of_mem _ wd_349)) (fun _ h9 => h9) rfl dX8_order_19 ?_
      refine va_get (D := D) (ci := 3) (v := .int (M 23 0)) (C := RX3) (T := TX3) (N := 6) hx hb hts hi3 hown hK hP 20 rfl rfl 1 (Nat.le_of_ble_eq_true rfl) (hts _ (List.mem_cons_of_mem _ wd_136)) (fun _ h9 => h9) rfl dX8_order_22 ?_
      obtain ⟨M_15, hq16, hf⟩ := zb1_some hf
      have J17 : zAt p l e ({ frames := 24, cells := 0, slots := 0, locals := 705 } : Room) s m [.ref (hM 0), .int a1].toArray below meth c (MQ below (zQi D cI cB r0 (w8 cI cB hM M0) A) [.ref (hM 0), .int a1].toArray s 0 0 A) A D 2 (w8 cI cB hM M_15) [(0, .ref (hM 0)), (1, .int a1)] 39 [] := by
        intro H locs ls hP hD hS hl
        refine lv_iload_n hx hb dX8_order_39 rfl (lv_at hl 1 rfl) ?_
        refine lv_iconst (v := (-1)) hx hb dX8_order_40 (by decide) ?_
        refine lv_icmp_ne (tgt := 54) hx hb dX8_order_41 (by decide) (fun c_21 => ?_) (fun c_21 => ?_)
        · replace hf := zif c_21 hf
          refine lv_aload_n hx hb dX8_order_54 rfl (lv_at hl 0 rfl) ?_
          refine va_get (D := D) (ci := 8) (v := .ref (hM 20)) (C := RX8) (T := TX8) (N := 14) hx hb hts hi8 hown hK hP 0 rfl rfl 6 (Nat.le_of_ble_eq_true rfl) (hts _ (List.mem_cons_of_mem _ wd_349)) (fun _ h9 => h9) rfl dX8_order_55 ?_
          refine va_get (D := D) (ci := 3) (v := .ref (hM 21)) (C := RX3) (T := TX3) (N := 6) hx hb hts hi3 hown hK hP 20 rfl rfl 0 (Nat.le_of_ble_eq_true rfl) (hts _ (List.mem_cons_of_mem _ wd_134)) (fun _ h9 => h9) rfl dX8_order_58 ?_
          refine lv_iload_n hx hb dX8_order_61 rfl (lv_at hl 1 rfl) ?_
          obtain ⟨i_v22, v22, e_v22, hf⟩ := zl_some hf
          refine va_iald (n := 7) (f := M_15 22) (cA := cI) hx hb hK hP 21 0 rfl rfl i_v22 dX8_order_62 ?_
          refine zt e_v22 ?_
          cases hf
          exact zretI hx hb hr hlocks hK hP hD hS dX8_order_63
        · replace hf := zit c_21 hf
          refine lv_aload_n hx hb dX8_order_44 rfl (lv_at hl 0 rfl) ?_
          refine va_get (D := D) (ci := 8) (v := .ref (hM 20)) (C := RX8) (T := TX8) (N := 14) hx hb hts hi8 hown hK hP 0 rfl rfl 6 (Nat.le_of_ble_eq_true rfl) (hts _ (List.mem_cons_of_mem _ wd_349)) (fun _ h9 => h9) rfl dX8_order_45 ?_
          refine va_get (D := D) (ci := 3) (v := .int (M_15 24 0)) (C := RX3) (T := TX3) (N := 6) hx hb hts hi3 hown hK hP 20 rfl rfl 2 (Nat.le_of_ble_eq_true rfl) (hts _ (List.mem_cons_of_mem _ wd_138)) (fun _ h9 => h9) rfl dX8_order_48 ?_
          refine lv_goto (tgt := 63) hx hb dX8_order_51 (by decide) ?_
          cases hf
          exact zretI hx hb hr hlocks hK hP hD hS dX8_order_63
      replace hf := hq16
      refine lv_if_ne (tgt := 39) hx hb dX8_order_25 (by decide) (fun c_14 => ?_) (fun c_14 => ?_)
      · replace hf := zif c_14 hf
        cases hf
        exact J17 _ _ _ hP hD hS (lv_sub hl [0, 1] rfl)
      · replace hf := zit c_14 hf
        refine lv_aload_n hx hb dX8_order_28 rfl (lv_at hl 0 rfl) ?_
        refine va_get (D := D) (ci := 8) (v := .ref (hM 20)) (C := RX8) (T := TX8) (N := 14) hx hb hts hi8 hown hK hP 0 rfl rfl 6 (Nat.le_of_ble_eq_true rfl) (hts _ (List.mem_cons_of_mem _ wd_349)) (fun _ h9 => h9) rfl dX8_order_29 ?_
        refine lv_aload_n hx hb dX8_order_32 rfl (lv_at hl 0 rfl) ?_
        refine va_get (D := D) (ci := 8) (v := .ref (hM 31)) (C := RX8) (T := TX8) (N := 14) hx hb hts hi8 hown hK hP 0 rfl rfl 12 (Nat.le_of_ble_eq_true rfl) (hts _ (List.mem_cons_of_mem _ wd_355)) (fun _ h9 => h9) rfl dX8_order_33 ?_
        obtain ⟨M_18, hq19, hf⟩ := zb1_some hf
        refine zcallVv (ws2 := (w8 cI cB hM (zp M 22 6 M_18))) (rest := []) ⟨hx, hb, hml, hown, hts⟩ (c_X3_search l D cI cB (fun j => hM (20 + j)) (fun j => hM (31 + j)) (fun j => M (22 + j)) (fun j => M (35 + j)) M_18 hq19) (cwV 1 hts (z_gV hG wd_503 wd_504 wd_505 wd_8 wd_506) rfl rfl rfl q_X3_search ⟨Nat.le_of_ble_eq_true rfl, Nat.le_of_ble_eq_true rfl⟩) hK hP hD hS hA 3 rfl rfl rfl [20, 21, 22, 23, 31, 32, 33, 34, 36, 37] [0, 1, 2, 3, 4, 5, 6, 7, 8, 9, 10, 11, 12, 13, 14, 15, 16, 17, 18, 19, 24, 25, 26, 27, 28, 29, 30, 35, 38, 39, 40, 41, 42, 43, 44] rfl rfl rfl (z_em ⟨rfl, rfl, rfl, rfl, rfl, rfl, rfl, rfl, rfl, rfl, rfl, rfl, rfl, rfl, rfl, rfl, rfl, rfl, rfl, rfl, rfl, rfl, rfl, rfl, rfl, rfl, rfl, rfl, rfl, rfl, rfl, rfl, rfl, rfl, rfl, trivial⟩) rfl rfl rfl hl.1 (Nat.le_of_ble_eq_true rfl) dX8_order_36 ⟨Nat.zero_le _, Nat.zero_le _⟩ rfl (fun H locs hP hD hS => ?_)
        obtain ⟨M_20, e_M_20, hf⟩ := zv_some hf
        rw [← e_M_20] at hP hD
        cases hf
        exact J17 _ _ _ hP hD hS (lv_sub hl [0, 1] rfl)
    · replace hf := zit c_13 hf
      refine lv_iconst (v := (-1)) hx hb dX8_order_16 (by decide) ?_
      cases hf
      exact zretI hx hb hr hlocks hK hP hD hS dX8_order_17
def f_X8_bolts (M : zMm) (a1 : Int32) : Option (Int32 × zMm) := if a1 = (-1) then zb1 (f_X8_measureNow M) (fun (M_2 : zMm) => zb2 (f_X0_search (fun j => M_2 (28 + j)) (fun j => M_2 (35 + j)) (fun j => M_2 (31 + j))) (fun (r4 : Int32) (M_5 : zMm) => zv (zp M_2 28 3 M_5) (fun (M_7 : zMm) => if a1 = (-1) then some (r4, M_7) else if r4 = (-4) then some (r4, M_7) else zl 7 (M_7 28) a1 (fun v10 => some (v10, M_7))))) else zb1 (f_X5_hasPart (fun j => M (35 + j)) a1) (fun (r11 : Int32) => if r11 = 0 then some (((-1) : Int32), M) else zb1 (f_X8_measureNow M) (fun (M_14 : zMm) => zb2 (f_X0_search (fun j => M_14 (28 + j)) (fun j => M_14 (35 + j)) (fun j => M_14 (31 + j))) (fun (r16 : Int32) (M_17 : zMm) => zv (zp M_14 28 3 M_17) (fun (M_19 : zMm) => if a1 = (-1) then some (r16, M_19) else if r16 = (-4) then some (r16, M_19) else zl 7 (M_19 28) a1 (fun v22 => some (v22, M_19))))))
abbrev ww_X8_bolts : List Cond := Cond.code yX8_bolts cX8_bolts 3 (some .int) :: wG
theorem q_X8_bolts : yX8_bolts.cls = RX8 ∧ yX8_bolts.cls ≠ "java/lang/invoke/MethodHandle" ∧ yX8_bolts.cls ≠ "java/lang/invoke/VarHandle" ∧ (parseMethodDescriptor yX8_bolts.desc).map (fun d => d.parameters.length) = some 1 := by decide +kernel
set_option maxHeartbeats 4000000 in
set_option maxRecDepth 100000 in
theorem c_X8_bolts (l : Launch) (D : va_G) (cI cB : ClassId) (hM : Nat → Nat) (M : zMm) (a1 : Int32) (r0 : Int32) (M0 : zMm) (hf : f_X8_bolts M a1 = some (r0, M0)) : zMi l yX8_bolts ww_X8_bolts ({ frames := 24, cells := 0, slots := 0, locals := 708 } : Room) D cI cB [.ref (hM 0), .int a1] (w8 cI cB hM M) r0 (w8 cI cB hM M0) := by
  refine zofI (cc := cX8_bolts) (maxL := 3) (ret := (some .int)) (by decide +kernel) rfl (Nat.le_of_ble_eq_true rfl) ?_
  intro p e s m below meth c A ls hx hb hml hr hown hts hlocks hK hP hD hS hA hl
  have hl : lv_has ls 3 [(0, .ref (hM 0)), (1, .int a1)] := hl
  have hown : s.vm.findClass RX8 = some m.cls := hown
  have hG : ∀ w ∈ wG, w ∈ ww_X8_bolts := fun w h => List.mem_cons_of_mem _ h
  have hi0 : ∀ w ∈ wsX00, w ∈ ww_X8_bolts := fun w h => List.mem_cons_of_mem _ (z_inX0 w h)
  have hi8 : ∀ w ∈ wsX80, w ∈ ww_X8_bolts := fun w h => List.mem_cons_of_mem _ (z_inX8 w h)
  unfold f_X8_bolts at hf
  refine lv_iload_n hx hb dX8_bolts_0 rfl (lv_at hl 1 rfl) ?_
  refine lv_iconst (v := (-1)) hx hb dX8_bolts_1 (by decide) ?_
  refine lv_icmp_eq (tgt := 18) hx hb dX8_bolts_2 (by decide) (fun c_1 => ?_) (fun c_1 => ?_)
  · replace hf := zit c_1 hf
    refine lv_aload_n hx hb dX8_bolts_18 rfl (lv_at hl 0 rfl) ?_
    obtain ⟨M_2, hq3, hf⟩ := zb1_some hf
    refine zcallVv (ws2 := (w8 cI cB hM M_2)) (rest := []) ⟨hx, hb, hml, hown, hts⟩ (c_X8_measureNow l D cI cB hM M M_2 hq3) (cwV 0 hts (z_gV hG wd_450 wd_452 wd_s11 wd_1 wd_453) rfl rfl rfl q_X8_measureNow ⟨Nat.le_of_ble_eq_true rfl, Nat.le_of_ble_eq_true rfl⟩) hK hP hD hS hA 8 rfl rfl rfl [0, 1, 2, 3, 4, 5, 6, 7, 8, 9, 10, 11, 12, 13, 14, 15, 16, 17, 18, 19, 20, 21, 22, 23, 24, 25, 26, 27, 28, 29, 30, 31, 32, 33, 34, 35, 36, 37, 38, 39, 40, 41, 42, 43, 44] [] rfl rfl rfl rfl rfl rfl rfl hl.1 (Nat.le_of_ble_eq_true rfl) dX8_bolts_19 ⟨Nat.zero_le _, Nat.zero_le _⟩ rfl (fun H locs hP hD hS => ?_)
    refine lv_aload_n hx hb dX8_bolts_22 rfl (lv_at hl 0 rfl) ?_
    refine va_get (D := D) (ci := 8) (v := .ref (hM 24)) (C := RX8) (T := TX8) (N := 14) hx hb hts hi8 hown hK hP 0 rfl rfl 7 (Nat.le_of_ble_eq_true rfl) (hts _ (List.mem_cons_of_mem _ wd_350)) (fun _ h9 => h9) rfl dX8_bolts_23 ?_
    refine lv_aload_n hx hb dX8_bolts_26 rfl (lv_at hl 0 rfl) ?_
    refine va_get (D := D) (ci := 8) (v := .ref (hM 31)) (C := RX8) (T := TX8) (N := 14) hx hb hts hi8 hown hK hP 0 rfl rfl 12 (Nat.le_of_ble_eq_true rfl) (hts _ (List.mem_cons_of_mem _ wd_355)) (fun _ h9 => h9) rfl dX8_bolts_27 ?_
    refine lv_aload_n hx hb dX8_bolts_30 rfl (lv_at hl 0 rfl) ?_
    refine va_get (D := D) (ci := 8) (v := .ref (hM 27)) (C := RX8) (T := TX8) (N := 14) hx hb hts hi8 hown hK hP 0 rfl rfl 8 (Nat.le_of_ble_eq_true rfl) (hts _ (List.mem_cons_of_mem _ wd_351)) (fun _ h9 => h9) rfl dX8_bolts_31 ?_
    obtain ⟨r4, M_5, hq6, hf⟩ := zb2_some hf
    refine zcallVi (ws2 := (w8 cI cB hM (zp M_2 28 3 M_5))) (rest := []) ⟨hx, hb, hml, hown, hts⟩ (c_X0_search l D cI cB (fun j => hM (24 + j)) (fun j => hM (31 + j)) (fun j => hM (27 + j)) (fun j => M_2 (28 + j)) (fun j => M_2 (35 + j)) (fun j => M_2 (31 + j)) r4 M_5 hq6) (cwV 2 hts (z_gV hG wd_580 wd_581 wd_582 wd_9 wd_583) rfl rfl rfl q_X0_search ⟨Nat.le_of_ble_eq_true rfl, Nat.le_of_ble_eq_true rfl⟩) hK hP hD hS hA 0 rfl rfl rfl [24, 25, 26, 31, 27] [0, 1, 2, 3, 4, 5, 6, 7, 8, 9, 10, 11, 12, 13, 14, 15, 16, 17, 18, 19, 20, 21, 22, 23, 28, 29, 30, 32, 33, 34, 35, 36, 37, 38, 39, 40, 41, 42, 43, 44] rfl rfl rfl (z_em ⟨rfl, rfl, rfl, rfl, rfl, rfl, rfl, rfl, rfl, rfl, rfl, rfl, rfl, rfl, rfl, rfl, rfl, rfl, rfl, rfl, rfl, rfl, rfl, rfl, rfl, rfl, rfl, rfl, rfl, rfl, rfl, rfl, rfl, rfl, rfl, rfl, rfl, rfl, rfl, rfl, trivial⟩) rfl rfl rfl hl.1 (Nat.le_of_ble_eq_true rfl) dX8_bolts_34 ⟨Nat.zero_le _, Nat.zero_le _⟩ rfl (fun H locs hP hD hS => ?_)
    obtain ⟨M_7, e_M_7, hf⟩ := zv_some hf
    rw [← e_M_7] at hP hD
    refine lv_istore_n (lv' := [(2, .int r4), (0, .ref (hM 0)), (1, .int a1)]) hx hb dX8_bolts_37 rfl hl (by decide) rfl (fun ls hl => ?_)
    refine lv_iload_n hx hb dX8_bolts_38 rfl (lv_at hl 2 rfl) ?_
    refine lv_iconst (v := (-1)) hx hb dX8_bolts_39 (by decide) ?_
    refine lv_icmp_eq (tgt := 49) hx hb dX8_bolts_40 (by decide) (fun c_8 => ?_) (fun c_8 => ?_)
    · replace hf := zit c_8 hf
      refine lv_iload_n hx hb dX8_bolts_49 rfl (lv_at hl 0 rfl) ?_
      refine lv_goto (tgt := 62) hx hb dX8_bolts_50 (by decide) ?_
      cases hf
      exact zretI hx hb hr hlocks hK hP hD hS dX8_bolts_62
    · replace hf := zif c_8 hf
      refine lv_iload_n hx hb dX8_bolts_43 rfl (lv_at hl 0 rfl) ?_
      refine lv_bipush (v := (-4)) hx hb dX8_bolts_44 (by decide) ?_
      refine lv_icmp_ne (tgt := 53) hx hb dX8_bolts_46 (by decide) (fun c_9 => ?_) (fun c_9 => ?_)
      · replace hf := zif c_9 hf
        refine lv_aload_n hx hb dX8_bolts_53 rfl (lv_at hl 1 rfl) ?_
        refine va_get (D := D) (ci := 8) (v := .ref (hM 24)) (C := RX8) (T := TX8) (N := 14) hx hb hts hi8 hown hK hP 0 rfl rfl 7 (Nat.le_of_ble_eq_true rfl) (hts _ (List.mem_cons_of_mem _ wd_350)) (fun _ h9 => h9) rfl dX8_bolts_54 ?_
        refine va_get (D := D) (ci := 0) (v := .ref (hM 25)) (C := RX0) (T := TX0) (N := 3) hx hb hts hi0 hown hK hP 24 rfl rfl 0 (Nat.le_of_ble_eq_true rfl) (hts _ (List.mem_cons_of_mem _ wd_162)) (fun _ h9 => h9) rfl dX8_bolts_57 ?_
        refine lv_iload_n hx hb dX8_bolts_60 rfl (lv_at hl 2 rfl) ?_
        obtain ⟨i_v10, v10, e_v10, hf⟩ := zl_some hf
        refine va_iald (n := 7) (f := M_7 28) (cA := cI) hx hb hK hP 25 0 rfl rfl i_v10 dX8_bolts_61 ?_
        refine zt e_v10 ?_
        cases hf
        exact zretI hx hb hr hlocks hK hP hD hS dX8_bolts_62
      · replace hf := zit c_9 hf
        refine lv_iload_n hx hb dX8_bolts_49 rfl (lv_at hl 0 rfl) ?_
        refine lv_goto (tgt := 62) hx hb dX8_bolts_50 (by decide) ?_
        cases hf
        exact zretI hx hb hr hlocks hK hP hD hS dX8_bolts_62
  · replace hf := zif c_1 hf
    refine lv_aload_n hx hb dX8_bolts_5 rfl (lv_at hl 0 rfl) ?_
    refine va_get (D := D) (ci := 8) (v := .ref (hM 31)) (C := RX8) (T := TX8) (N := 14) hx hb hts hi8 hown hK hP 0 rfl rfl 12 (Nat.le_of_ble_eq_true rfl) (hts _ (List.mem_cons_of_mem _ wd_355)) (fun _ h9 => h9) rfl dX8_bolts_6 ?_
    refine lv_iload_n hx hb dX8_bolts_9 rfl (lv_at hl 1 rfl) ?_
    obtain ⟨r11, hq12, hf⟩ := zb1_some hf
    refine zcallVi (ws2 := (w8 cI cB hM M)) (rest := []) ⟨hx, hb, hml, hown, hts⟩ (c_X5_hasPart l D cI cB (fun j => hM (31 + j)) (fun j => M (35 + j)) a1 r11 hq12) (cwV 1 hts (z_gV hG wd_411 wd_328 wd_329 wd_10 wd_330) rfl rfl rfl q_X5_hasPart ⟨Nat.le_of_ble_eq_true rfl, Nat.le_of_ble_eq_true rfl⟩) hK hP hD hS hA 5 rfl rfl rfl [31] [0, 1, 2, 3, 4, 5, 6, 7, 8, 9, 10, 11, 12, 13, 14, 15, 16, 17, 18, 19, 20, 21, 22, 23, 24, 25, 26, 27, 28, 29, 30, 32, 33, 34, 35, 36, 37, 38, 39, 40, 41, 42, 43, 44] rfl rfl rfl rfl rfl rfl rfl hl.1 (Nat.le_of_ble_eq_true rfl) dX8_bolts_10 ⟨Nat.zero_le _, Nat.zero_le _⟩ rfl (fun H locs hP hD hS => ?_)
    refine lv_if_ne (tgt := 18) hx hb dX8_bolts_13 (by decide) (fun c_13 => ?_) (fun c_13 => ?_)
    · replace hf := zif c_13 hf
      refine lv_aload_n hx hb dX8_bolts_18 rfl (lv_at hl 0 rfl) ?_
      obtain ⟨M_14, hq15, hf⟩ := zb1_some hf
      refine zcallVv (ws2 := (w8 cI cB hM M_14)) (rest := []) ⟨hx, hb, hml, hown, hts⟩ (c_X8_measureNow l D cI cB hM M M_14 hq15) (cwV 0 hts (z_gV hG wd_450 wd_452 wd_s11 wd_1 wd_453) rfl rfl rfl q_X8_measureNow ⟨Nat.le_of_ble_eq_true rfl, Nat.le_of_ble_eq_true rfl⟩) hK hP hD hS hA 8 rfl rfl rfl [0, 1, 2, 3, 4, 5, 6, 7, 8, 9, 10, 11, 12, 13, 14, 15, 16, 17, 18, 19, 20, 21, 22, 23, 24, 25, 26, 27, 28, 29, 30, 31, 32, 33, 34, 35, 36, 37, 38, 39, 40, 41, 42, 43, 44] [] rfl rfl rfl rfl rfl rfl rfl hl.1 (Nat.le_of_ble_eq_true rfl) dX8_bolts_19 ⟨Nat.zero_le _, Nat.zero_le _⟩ rfl (fun H locs hP hD hS => ?_)
      refine lv_aload_n hx hb dX8_bolts_22 rfl (lv_at hl 0 rfl) ?_
      refine va_get (D := D) (ci := 8) (v := .ref (hM 24)) (C := RX8) (T := TX8) (N := 14) hx hb hts hi8 hown hK hP 0 rfl rfl 7 (Nat.le_of_ble_eq_true rfl) (hts _ (List.mem_cons_of_mem _ wd_350)) (fun _ h9 => h9) rfl dX8_bolts_23 ?_
      refine lv_aload_n hx hb dX8_bolts_26 rfl (lv_at hl 0 rfl) ?_
      refine va_get (D := D) (ci := 8) (v := .ref (hM 31)) (C := RX8) (T := TX8) (N := 14) hx hb hts hi8 hown hK hP 0 rfl rfl 12 (Nat.le_of_ble_eq_true rfl) (hts _ (List.mem_cons_of_mem _ wd_355)) (fun _ h9 => h9) rfl dX8_bolts_27 ?_
      refine lv_aload_n hx hb dX8_bolts_30 rfl (lv_at hl 0 rfl) ?_
      refine va_get (D := D) (ci := 8) (v := .ref (hM 27)) (C := RX8) (T := TX8) (N := 14) hx hb hts hi8 hown hK hP 0 rfl rfl 8 (Nat.le_of_ble_eq_true rfl) (hts _ (List.mem_cons_of_mem _ wd_351)) (fun _ h9 => h9) rfl dX8_bolts_31 ?_
      obtain ⟨r16, M_17, hq18, hf⟩ := zb2_some hf
      refine zcallVi (ws2 := (w8 cI cB hM (zp M_14 28 3 M_17))) (rest := []) ⟨hx, hb, hml, hown, hts⟩ (c_X0_search l D cI cB (fun j => hM (24 + j)) (fun j => hM (31 + j)) (fun j => hM (27 + j)) (fun j => M_14 (28 + j)) (fun j => M_14 (35 + j)) (fun j => M_14 (31 + j)) r16 M_17 hq18) (cwV 2 hts (z_gV hG wd_580 wd_581 wd_582 wd_9 wd_583) rfl rfl rfl q_X0_search ⟨Nat.le_of_ble_eq_true rfl, Nat.le_of_ble_eq_true rfl⟩) hK hP hD hS hA 0 rfl rfl rfl [24, 25, 26, 31, 27] [0, 1, 2, 3, 4, 5, 6, 7, 8, 9, 10, 11, 12, 13, 14, 15, 16, 17, 18, 19, 20, 21, 22, 23, 28, 29, 30, 32, 33, 34, 35, 36, 37, 38, 39, 40, 41, 42, 43, 44] rfl rfl rfl (z_em ⟨rfl, rfl, rfl, rfl, rfl, rfl, rfl, rfl, rfl, rfl, rfl, rfl, rfl, rfl, rfl, rfl, rfl, rfl, rfl, rfl, rfl, rfl, rfl, rfl, rfl, rfl, rfl, rfl, rfl, rfl, rfl, rfl, rfl, rfl, rfl, rfl, rfl, rfl, rfl, rfl, trivial⟩) rfl rfl rfl hl.1 (Nat.le_of_ble_eq_true rfl) dX8_bolts_34 ⟨Nat.zero_le _, Nat.zero_le _⟩ rfl (fun H locs hP hD hS => ?_)
      obtain ⟨M_19, e_M_19, hf⟩ := zv_some hf
      rw [← e_M_19] at hP hD
      refine lv_istore_n (lv' := [(2, .int r16), (0, .ref (hM 0)), (1, .int a1)]) hx hb dX8_bolts_37 rfl hl (by decide) rfl (fun ls hl => ?_)
      refine lv_iload_n hx hb dX8_bolts_38 rfl (lv_at hl 2 rfl) ?_
      refine lv_iconst (v := (-1)) hx hb dX8_bolts_39 (by decide) ?_
      refine lv_icmp_eq (tgt := 49) hx hb dX8_bolts_40 (by decide) (fun c_20 => ?_) (fun c_20 => ?_)
      · replace hf := zit c_20 hf
        refine lv_iload_n hx hb dX8_bolts_49 rfl (lv_at hl 0 rfl) ?_
        refine lv_goto (tgt := 62) hx hb dX8_bolts_50 (by decide) ?_
        cases hf
        exact zretI hx hb hr hlocks hK hP hD hS dX8_bolts_62
      · replace hf := zif c_20 hf
        refine lv_iload_n hx hb dX8_bolts_43 rfl (lv_at hl 0 rfl) ?_
        refine lv_bipush (v := (-4)) hx hb dX8_bolts_44 (by decide) ?_
        refine lv_icmp_ne (tgt := 53) hx hb dX8_bolts_46 (by decide) (fun c_21 => ?_) (fun c_21 => ?_)
        · replace hf := zif c_21 hf
          refine lv_aload_n hx hb dX8_bolts_53 rfl (lv_at hl 1 rfl) ?_
          refine va_get (D := D) (ci := 8) (v := .ref (hM 24)) (C := RX8) (T := TX8) (N := 14) hx hb hts hi8 hown hK hP 0 rfl rfl 7 (Nat.le_of_ble_eq_true rfl) (hts _ (List.mem_cons_of_mem _ wd_350)) (fun _ h9 => h9) rfl dX8_bolts_54 ?_
          refine va_get (D := D) (ci := 0) (v := .ref (hM 25)) (C := RX0) (T := TX0) (N := 3) hx hb hts hi0 hown hK hP 24 rfl rfl 0 (Nat.le_of_ble_eq_true rfl) (hts _ (List.mem_cons_of_mem _ wd_162)) (fun _ h9 => h9) rfl dX8_bolts_57 ?_
          refine lv_iload_n hx hb dX8_bolts_60 rfl (lv_at hl 2 rfl) ?_
          obtain ⟨i_v22, v22, e_v22, hf⟩ := zl_some hf
          refine va_iald (n := 7) (f := M_19 28) (cA := cI) hx hb hK hP 25 0 rfl rfl i_v22 dX8_bolts_61 ?_
          refine zt e_v22 ?_
          cases hf
          exact zretI hx hb hr hlocks hK hP hD hS dX8_bolts_62
        · replace hf := zit c_21 hf
          refine lv_iload_n hx hb dX8_bolts_49 rfl (lv_at hl 0 rfl) ?_
          refine lv_goto (tgt := 62) hx hb dX8_bolts_50 (by decide) ?_
          cases hf
          exact zretI hx hb hr hlocks hK hP hD hS dX8_bolts_62
    · replace hf := zit c_13 hf
      refine lv_iconst (v := (-1)) hx hb dX8_bolts_16 (by decide) ?_
      cases hf
      exact zretI hx hb hr hlocks hK hP hD hS dX8_bolts_17
def L_X8_bribes_13 (l1 : Int32) : Nat → Int32 → zMm → Option (Int32 × zMm)
  | 0, _, _ => none
  | n + 1, l2, M => if (M 42 0) ≤ l2 then some (l2, M) else zb1 (f_X5_cutLength (fun j => M (35 + j)) l2 0) (fun (r3 : Int32) => zw 7 M 32 l2 r3 (fun M_5 => zb1 (f_X8_slipNow M_5 l2) (fun (r6 : Int32) => zb1 (f_X5_cutLength (fun j => M_5 (35 + j)) l2 r6) (fun (r8 : Int32) => zw 7 M_5 33 l2 r8 (fun M_10 => zv (l2 + 1) (fun (x11 : Int32) => L_X8_bribes_13 l1 n x11 M_10))))))
def L_X8_bribes_73 (l1 : Int32) : Nat → Int32 → Int32 → Int32 → zMm → Option (Int32 × Int32 × Int32 × zMm)
  | 0, _, _, _, _ => none
  | n + 1, l2, l3, l4, M => if ((1 : Int32) <<< ((M 42 0) &&& 31)) ≤ l4 then some (l2, l3, l4, M) else zb1 (f_X5_sumOfSet (fun j => M (35 + j)) (fun j => M (38 + j)) l4) (fun (r16 : Int32) => zb3 (if l2 = (-4) then zb2 (f_X8_isClosedByBribing M l4) (fun (r24 : Int32) (M_25 : zMm) => if r24 = 0 then some (M_25, l2, l3) else some (M_25, l4, r16)) else if l3 ≤ r16 then some (M, l2, l3) else zb2 (f_X8_isClosedByBribing M l4) (fun (r29 : Int32) (M_30 : zMm) => if r29 = 0 then some (M_30, l2, l3) else some (M_30, l4, r16))) (fun (M_19 : zMm) (x20 : Int32) (x21 : Int32) => zv (l4 + 1) (fun (x33 : Int32) => L_X8_bribes_73 l1 n x20 x21 x33 M_19)))
def f_X8_bribes (M : zMm) (a1 : Int32) : Option (Int32 × zMm) := if a1 = 0 then zb2 (L_X8_bribes_13 a1 100000 0 M) (fun (x12 : Int32) (M_13 : zMm) => zb4 (L_X8_bribes_73 a1 100000 (-4) (-4) 0 M_13) (fun (x34 : Int32) (x35 : Int32) (x36 : Int32) (M_37 : zMm) => if a1 = 0 then some (x35, M_37) else some (x34, M_37))) else if a1 = 1 then zb2 (L_X8_bribes_13 a1 100000 0 M) (fun (x41 : Int32) (M_42 : zMm) => zb4 (L_X8_bribes_73 a1 100000 (-4) (-4) 0 M_42) (fun (x44 : Int32) (x45 : Int32) (x46 : Int32) (M_47 : zMm) => if a1 = 0 then some (x45, M_47) else some (x44, M_47))) else some (((-1) : Int32), M)
abbrev ww_X8_bribes : List Cond := Cond.code yX8_bribes cX8_bribes 6 (some .int) :: wG
theorem q_X8_bribes : yX8_bribes.cls = RX8 ∧ yX8_bribes.cls ≠ "java/lang/invoke/MethodHandle" ∧ yX8_bribes.cls ≠ "java/lang/invoke/VarHandle" ∧ (parseMethodDescriptor yX8_bribes.desc).map (fun d => d.parameters.length) = some 1 := by decide +kernel
set_option maxHeartbeats 4000000 in
set_option maxRecDepth 100000 in
theorem c_X8_bribes (l : Launch) (D : va_G) (cI cB : ClassId) (hM : Nat → Nat) (M : zMm) (a1 : Int32) (r0 : Int32) (M0 : zMm) (hf : f_X8_bribes M a1 = some (r0, M0)) : zMi l yX8_bribes ww_X8_bribes ({ frames := 4, cells := 0, slots := 0, locals := 87 } : Room) D cI cB [.ref (hM 0), .int a1] (w8 cI cB hM M) r0 (w8 cI cB hM M0) := by
  refine zofI (cc := cX8_bribes) (maxL := 6) (ret := (some .int)) (by decide +kernel) rfl (Nat.le_of_ble_eq_true rfl) ?_
  intro p e s m below meth c A ls hx hb hml hr hown hts hlocks hK hP hD hS hA hl
  have hl : lv_has ls 6 [(0, .ref (hM 0)), (1, .int a1)] := hl
  have hown : s.vm.findClass RX8 = some m.cls := hown
  have hG : ∀ w ∈ wG, w ∈ ww_X8_bribes := fun w h => List.mem_cons_of_mem _ h
  have hi5 : ∀ w ∈ wsX50, w ∈ ww_X8_bribes := fun w h => List.mem_cons_of_mem _ (z_inX5 w h)
  have hi8 : ∀ w ∈ wsX80, w ∈ ww_X8_bribes := fun w h => List.mem_cons_of_mem _ (z_inX8 w h)
  have L73 : ∀ (l1 : Int32) (n : Nat) (l2 : Int32) (l3 : Int32) (l4 : Int32) (M : zMm) (o2 : Int32) (o3 : Int32) (o4 : Int32) (oM : zMm), L_X8_bribes_73 l1 n l2 l3 l4 M = some (o2, o3, o4, oM) → zAt p l e ({ frames := 4, cells := 0, slots := 0, locals := 87 } : Room) s m [.ref (hM 0), .int a1].toArray below meth c (MQ below (zQi D cI cB r0 (w8 cI cB hM M0) A) [.ref (hM 0), .int a1].toArray s 0 0 A) A D 6 (w8 cI cB hM oM) [(0, .ref (hM 0)), (1, .int l1), (2, .int o2), (3, .int o3), (4, .int o4)] 138 [] → zAt p l e ({ frames := 4, cells := 0, slots := 0, locals := 87 } : Room) s m [.ref (hM 0), .int a1].toArray below meth c (MQ below (zQi D cI cB r0 (w8 cI cB hM M0) A) [.ref (hM 0), .int a1].toArray s 0 0 A) A D 6 (w8 cI cB hM M) [(0, .ref (hM 0)), (1, .int l1), (2, .int l2), (3, .int l3), (4, .int l4)] 73 [] := by
    intro l1 n
    induction n with
    | zero => intro l2 l3 l4 M o2 o3 o4 oM hf; simp [L_X8_bribes_73] at hf
    | succ n ih =>
      intro l2 l3 l4 M o2 o3 o4 oM hf hk H locs ls hP hD hS hl
      rw [L_X8_bribes_73] at hf
      refine lv_iload hx hb dX8_bribes_73 (lv_at hl 4 rfl) ?_
      refine lv_iconst (v := 1) hx hb dX8_bribes_75 (by decide) ?_
      refine lv_aload_n hx hb dX8_bribes_76 rfl (lv_at hl 0 rfl) ?_
      refine va_get (D := D) (ci := 8) (v := .ref (hM 31)) (C := RX8) (T := TX8) (N := 14) hx hb hts hi8 hown hK hP 0 rfl rfl 12 (Nat.le_of_ble_eq_true rfl) (hts _ (List.mem_cons_of_mem _ wd_355)) (fun _ h9 => h9) rfl dX8_bribes_77 ?_
      refine va_get (D := D) (ci := 5) (v := .int (M 42 0)) (C := RX5) (T := TX5) (N := 12) hx hb hts hi5 hown hK hP 31 rfl rfl 7 (Nat.le_of_ble_eq_true rfl) (hts _ (List.mem_cons_of_mem _ wd_196)) (fun _ h9 => h9) rfl dX8_bribes_80 ?_
      refine lv_ishl hx hb dX8_bribes_83 ?_
      refine lv_icmp_ge (tgt := 138) hx hb dX8_bribes_84 (by decide) (fun c_15 => ?_) (fun c_15 => ?_)
      · replace hf := zit c_15 hf
        cases hf
        exact hk _ _ _ hP hD hS (lv_sub hl [0, 1, 2, 3, 4] rfl)
      · replace hf := zif c_15 hf
        refine lv_aload_n hx hb dX8_bribes_87 rfl (lv_at hl 0 rfl) ?_
        refine va_get (D := D) (ci := 8) (v := .ref (hM 31)) (C := RX8) (T := TX8) (N := 14) hx hb hts hi8 hown hK hP 0 rfl rfl 12 (Nat.le_of_ble_eq_true rfl) (hts _ (List.mem_cons_of_mem _ wd_355)) (fun _ h9 => h9) rfl dX8_bribes_88 ?_
        refine lv_aload_n hx hb dX8_bribes_91 rfl (lv_at hl 0 rfl) ?_
        refine va_get (D := D) (ci := 8) (v := .ref (hM 31)) (C := RX8) (T := TX8) (N := 14) hx hb hts hi8 hown hK hP 0 rfl rfl 12 (Nat.le_of_ble_eq_true rfl) (hts _ (List.mem_cons_of_mem _ wd_355)) (fun _ h9 => h9) rfl dX8_bribes_92 ?_
        refine va_get (D := D) (ci := 5) (v := .ref (hM 35)) (C := RX5) (T := TX5) (N := 12) hx hb hts hi5 hown hK hP 31 rfl rfl 3 (Nat.le_of_ble_eq_true rfl) (hts _ (List.mem_cons_of_mem _ wd_184)) (fun _ h9 => h9) rfl dX8_bribes_95 ?_
        refine lv_iload hx hb dX8_bribes_98 (lv_at hl 4 rfl) ?_
        obtain ⟨r16, hq17, hf⟩ := zb1_some hf
        refine zcallVi (ws2 := (w8 cI cB hM M)) (rest := []) ⟨hx, hb, hml, hown, hts⟩ (c_X5_sumOfSet l D cI cB (fun j => hM (31 + j)) (fun j => hM (35 + j)) (fun j => M (35 + j)) (fun j => M (38 + j)) l4 r16 hq17) (cwV 2 hts (z_gV hG wd_530 wd_531 wd_532 wd_10 wd_533) rfl rfl rfl q_X5_sumOfSet ⟨Nat.le_of_ble_eq_true rfl, Nat.le_of_ble_eq_true rfl⟩) hK hP hD hS hA 5 rfl rfl rfl [31, 35] [0, 1, 2, 3, 4, 5, 6, 7, 8, 9, 10, 11, 12, 13, 14, 15, 16, 17, 18, 19, 20, 21, 22, 23, 24, 25, 26, 27, 28, 29, 30, 32, 33, 34, 36, 37, 38, 39, 40, 41, 42, 43, 44] rfl rfl rfl rfl rfl rfl rfl hl.1 (Nat.le_of_ble_eq_true rfl) dX8_bribes_100 ⟨Nat.zero_le _, Nat.zero_le _⟩ rfl (fun H locs hP hD hS => ?_)
        refine lv_istore (lv' := [(5, .int r16), (0, .ref (hM 0)), (1, .int l1), (2, .int l2), (3, .int l3), (4, .int l4)]) hx hb dX8_bribes_103 hl (by decide) rfl (fun ls hl => ?_)
        refine lv_iload_n hx hb dX8_bribes_105 rfl (lv_at hl 3 rfl) ?_
        refine lv_bipush (v := (-4)) hx hb dX8_bribes_106 (by decide) ?_
        obtain ⟨M_19, x20, x21, hq22, hf⟩ := zb3_some hf
        have J23 : zAt p l e ({ frames := 4, cells := 0, slots := 0, locals := 87 } : Room) s m [.ref (hM 0), .int a1].toArray below meth c (MQ below (zQi D cI cB r0 (w8 cI cB hM M0) A) [.ref (hM 0), .int a1].toArray s 0 0 A) A D 6 (w8 cI cB hM M_19) [(0, .ref (hM 0)), (1, .int l1), (2, .int x20), (3, .int x21), (4, .int l4), (5, .int r16)] 132 [] := by
          intro H locs ls hP hD hS hl
          obtain ⟨x33, e_x33, hf⟩ := zv_some hf
          refine lv_iinc (v := x33) (lv' := [(4, .int x33), (0, .ref (hM 0)), (1, .int l1), (2, .int x20), (3, .int x21), (5, .int r16)]) hx hb dX8_bribes_132 hl (k := 4) rfl (by rw [e_x33]; rfl) (by decide) rfl (fun ls hl => ?_)
          refine lv_goto (tgt := 73) hx hb dX8_bribes_135 (by decide) ?_
          exact ih _ _ _ _ _ _ _ _ hf hk _ _ _ hP hD hS (lv_sub hl [1, 2, 3, 4, 0] rfl)
        replace hf := hq22
        refine lv_icmp_eq (tgt := 117) hx hb dX8_bribes_108 (by decide) (fun c_18 => ?_) (fun c_18 => ?_)
        · replace hf := zit c_18 hf
          refine lv_aload_n hx hb dX8_bribes_117 rfl (lv_at hl 1 rfl) ?_
          refine lv_iload hx hb dX8_bribes_118 (lv_at hl 5 rfl) ?_
          obtain ⟨r24, M_25, hq26, hf⟩ := zb2_some hf
          refine zcallVi (ws2 := (w8 cI cB hM M_25)) (rest := []) ⟨hx, hb, hml, hown, hts⟩ (c_X8_isClosedByBribing l D cI cB hM M l4 r24 M_25 hq26) (cwV 1 hts (z_gV hG wd_534 wd_536 wd_s16 wd_1 wd_537) rfl rfl rfl q_X8_isClosedByBribing ⟨Nat.le_of_ble_eq_true rfl, Nat.le_of_ble_eq_true rfl⟩) hK hP hD hS hA 8 rfl rfl rfl [0, 1, 2, 3, 4, 5, 6, 7, 8, 9, 10, 11, 12, 13, 14, 15, 16, 17, 18, 19, 20, 21, 22, 23, 24, 25, 26, 27, 28, 29, 30, 31, 32, 33, 34, 35, 36, 37, 38, 39, 40, 41, 42, 43, 44] [] rfl rfl rfl rfl rfl rfl rfl hl.1 (Nat.le_of_ble_eq_true rfl) dX8_bribes_120 ⟨Nat.zero_le _, Nat.zero_le _⟩ rfl (fun H locs hP hD hS => ?_)
          refine lv_if_eq (tgt := 132) hx hb dX8_bribes_123 (by decide) (fun c_27 => ?_) (fun c_27 => ?_)
          · replace hf := zit c_27 hf
            cases hf
            exact J23 _ _ _ hP hD hS (lv_sub hl [1, 2, 3, 4, 5, 0] rfl)
          · replace hf := zif c_27 hf
            refine lv_iload hx hb dX8_bribes_126 (lv_at hl 5 rfl) ?_
            refine lv_istore_n (lv' := [(2, .int l4), (5, .int r16), (0, .ref (hM 0)), (1, .int l1), (3, .int l3), (4, .int l4)]) hx hb dX8_bribes_128 rfl hl (by decide) rfl (fun ls hl => ?_)
            refine lv_iload hx hb dX8_bribes_129 (lv_at hl 1 rfl) ?_
            refine lv_istore_n (lv' := [(3, .int r16), (2, .int l4), (5, .int r16), (0, .ref (hM 0)), (1, .int l1), (4, .int l4)]) hx hb dX8_bribes_131 rfl hl (by decide) rfl (fun ls hl => ?_)
            cases hf
            exact J23 _ _ _ hP hD hS (lv_sub hl [3, 4, 1, 0, 5, 2] rfl)
        · replace hf := zif c_18 hf
          refine lv_iload hx hb dX8_bribes_111 (lv_at hl 0 rfl) ?_
          refine lv_iload_n hx hb dX8_bribes_113 rfl (lv_at hl 4 rfl) ?_
          refine lv_icmp_ge (tgt := 132) hx hb dX8_bribes_114 (by decide) (fun c_28 => ?_) (fun c_28 => ?_)
          · replace hf := zit c_28 hf
            cases hf
            exact J23 _ _ _ hP hD hS (lv_sub hl [1, 2, 3, 4, 5, 0] rfl)
          · replace hf := zif c_28 hf
            refine lv_aload_n hx hb dX8_bribes_117 rfl (lv_at hl 1 rfl) ?_
            refine lv_iload hx hb dX8_bribes_118 (lv_at hl 5 rfl) ?_
            obtain ⟨r29, M_30, hq31, hf⟩ := zb2_some hf
            refine zcallVi (ws2 := (w8 cI cB hM M_30)) (rest := []) ⟨hx, hb, hml, hown, hts⟩ (c_X8_isClosedByBribing l D cI cB hM M l4 r29 M_30 hq31) (cwV 1 hts (z_gV hG wd_534 wd_536 wd_s16 wd_1 wd_537) rfl rfl rfl q_X8_isClosedByBribing ⟨Nat.le_of_ble_eq_true rfl, Nat.le_of_ble_eq_true rfl⟩) hK hP hD hS hA 8 rfl rfl rfl [0, 1, 2, 3, 4, 5, 6, 7, 8, 9, 10, 11, 12, 13, 14, 15, 16, 17, 18, 19, 20, 21, 22, 23, 24, 25, 26, 27, 28, 29, 30, 31, 32, 33, 34, 35, 36, 37, 38, 39, 40, 41, 42, 43, 44] [] rfl rfl rfl rfl rfl rfl rfl hl.1 (Nat.le_of_ble_eq_true rfl) dX8_bribes_120 ⟨Nat.zero_le _, Nat.zero_le _⟩ rfl (fun H locs hP hD hS => ?_)
            refine lv_if_eq (tgt := 132) hx hb dX8_bribes_123 (by decide) (fun c_32 => ?_) (fun c_32 => ?_)
            · replace hf := zit c_32 hf
              cases hf
              exact J23 _ _ _ hP hD hS (lv_sub hl [1, 2, 3, 4, 5, 0] rfl)
            · replace hf := zif c_32 hf
              refine lv_iload hx hb dX8_bribes_126 (lv_at hl 5 rfl) ?_
              refine lv_istore_n (lv' := [(2, .int l4), (5, .int r16), (0, .ref (hM 0)), (1, .int l1), (3, .int l3), (4, .int l4)]) hx hb dX8_bribes_128 rfl hl (by decide) rfl (fun ls hl => ?_)
              refine lv_iload hx hb dX8_bribes_129 (lv_at hl 1 rfl) ?_
              refine lv_istore_n (lv' := [(3, .int r16), (2, .int l4), (5, .int r16), (0, .ref (hM 0)), (1, .int l1), (4, .int l4)]) hx hb dX8_bribes_131 rfl hl (by decide) rfl (fun ls hl => ?_)
              cases hf
              exact J23 _ _ _ hP hD hS (lv_sub hl [3, 4, 1, 0, 5, 2] rfl)
  have L13 : ∀ (l1 : Int32) (n : Nat) (l2 : Int32) (M : zMm) (o2 : Int32) (oM : zMm), L_X8_bribes_13 l1 n l2 M = some (o2, oM) → zAt p l e ({ frames := 4, cells := 0, slots := 0, locals := 87 } : Room) s m [.ref (hM 0), .int a1].toArray below meth c (MQ below (zQi D cI cB r0 (w8 cI cB hM M0) A) [.ref (hM 0), .int a1].toArray s 0 0 A) A D 6 (w8 cI cB hM oM) [(0, .ref (hM 0)), (1, .int l1), (2, .int o2)] 64 [] → zAt p l e ({ frames := 4, cells := 0, slots := 0, locals := 87 } : Room) s m [.ref (hM 0), .int a1].toArray below meth c (MQ below (zQi D cI cB r0 (w8 cI cB hM M0) A) [.ref (hM 0), .int a1].toArray s 0 0 A) A D 6 (w8 cI cB hM M) [(0, .ref (hM 0)), (1, .int l1), (2, .int l2)] 13 [] := by
    intro l1 n
    induction n with
    | zero => intro l2 M o2 oM hf; simp [L_X8_bribes_13] at hf
    | succ n ih =>
      intro l2 M o2 oM hf hk H locs ls hP hD hS hl
      rw [L_X8_bribes_13] at hf
      refine lv_iload_n hx hb dX8_bribes_13 rfl (lv_at hl 2 rfl) ?_
      refine lv_aload_n hx hb dX8_bribes_14 rfl (lv_at hl 0 rfl) ?_
      refine va_get (D := D) (ci := 8) (v := .ref (hM 31)) (C := RX8) (T := TX8) (N := 14) hx hb hts hi8 hown hK hP 0 rfl rfl 12 (Nat.le_of_ble_eq_true rfl) (hts _ (List.mem_cons_of_mem _ wd_355)) (fun _ h9 => h9) rfl dX8_bribes_15 ?_
      refine va_get (D := D) (ci := 5) (v := .int (M 42 0)) (C := RX5) (T := TX5) (N := 12) hx hb hts hi5 hown hK hP 31 rfl rfl 7 (Nat.le_of_ble_eq_true rfl) (hts _ (List.mem_cons_of_mem _ wd_196)) (fun _ h9 => h9) rfl dX8_bribes_18 ?_
      refine lv_icmp_ge (tgt := 64) hx hb dX8_bribes_21 (by decide) (fun c_2 => ?_) (fun c_2 => ?_)
      · replace hf := zit c_2 hf
        cases hf
        exact hk _ _ _ hP hD hS (lv_sub hl [0, 1, 2] rfl)
      · replace hf := zif c_2 hf
        refine lv_aload_n hx hb dX8_bribes_24 rfl (lv_at hl 0 rfl) ?_
        refine va_get (D := D) (ci := 8) (v := .ref (hM 28)) (C := RX8) (T := TX8) (N := 14) hx hb hts hi8 hown hK hP 0 rfl rfl 9 (Nat.le_of_ble_eq_true rfl) (hts _ (List.mem_cons_of_mem _ wd_352)) (fun _ h9 => h9) rfl dX8_bribes_25 ?_
        refine lv_iload_n hx hb dX8_bribes_28 rfl (lv_at hl 2 rfl) ?_
        refine lv_aload_n hx hb dX8_bribes_29 rfl (lv_at hl 0 rfl) ?_
        refine va_get (D := D) (ci := 8) (v := .ref (hM 31)) (C := RX8) (T := TX8) (N := 14) hx hb hts hi8 hown hK hP 0 rfl rfl 12 (Nat.le_of_ble_eq_true rfl) (hts _ (List.mem_cons_of_mem _ wd_355)) (fun _ h9 => h9) rfl dX8_bribes_30 ?_
        refine lv_iload_n hx hb dX8_bribes_33 rfl (lv_at hl 2 rfl) ?_
        refine lv_iconst (v := 0) hx hb dX8_bribes_34 (by decide) ?_
        obtain ⟨r3, hq4, hf⟩ := zb1_some hf
        refine zcallVi (ws2 := (w8 cI cB hM M)) (rest := [.int l2, .ref (hM 28)]) ⟨hx, hb, hml, hown, hts⟩ (c_X5_cutLength l D cI cB (fun j => hM (31 + j)) (fun j => M (35 + j)) l2 0 r3 hq4) (cwV 2 hts (z_gV hG wd_431 wd_432 wd_433 wd_10 wd_434) rfl rfl rfl q_X5_cutLength ⟨Nat.le_of_ble_eq_true rfl, Nat.le_of_ble_eq_true rfl⟩) hK hP hD hS hA 5 rfl rfl rfl [31, 32, 33, 34] [0, 1, 2, 3, 4, 5, 6, 7, 8, 9, 10, 11, 12, 13, 14, 15, 16, 17, 18, 19, 20, 21, 22, 23, 24, 25, 26, 27, 28, 29, 30, 35, 36, 37, 38, 39, 40, 41, 42, 43, 44] rfl rfl rfl rfl rfl rfl rfl hl.1 (Nat.le_of_ble_eq_true rfl) dX8_bribes_35 ⟨Nat.zero_le _, Nat.zero_le _⟩ rfl (fun H locs hP hD hS => ?_)
        obtain ⟨i_M_5, M_5, e_M_5, hf⟩ := zw_some hf
        refine va_iast (n := 7) (f := M 32) (cA := cI) hx hb hK hP hD hS 28 0 rfl rfl i_M_5 dX8_bribes_38 (fun H locs hP hD hS => ?_)
        have hP : va_P D vwCl (w8 cI cB hM (zs M 32 (upd (M 32) l2.toNatClampNeg r3))) H := hP
        have hD : va_D A (w8 cI cB hM (zs M 32 (upd (M 32) l2.toNatClampNeg r3))) := hD
        rw [← e_M_5] at hP hD
        refine lv_aload_n hx hb dX8_bribes_39 rfl (lv_at hl 0 rfl) ?_
        refine va_get (D := D) (ci := 8) (v := .ref (hM 29)) (C := RX8) (T := TX8) (N := 14) hx hb hts hi8 hown hK hP 0 rfl rfl 10 (Nat.le_of_ble_eq_true rfl) (hts _ (List.mem_cons_of_mem _ wd_353)) (fun _ h9 => h9) rfl dX8_bribes_40 ?_
        refine lv_iload_n hx hb dX8_bribes_43 rfl (lv_at hl 2 rfl) ?_
        refine lv_aload_n hx hb dX8_bribes_44 rfl (lv_at hl 0 rfl) ?_
        refine va_get (D := D) (ci := 8) (v := .ref (hM 31)) (C := RX8) (T := TX8) (N := 14) hx hb hts hi8 hown hK hP 0 rfl rfl 12 (Nat.le_of_ble_eq_true rfl) (hts _ (List.mem_cons_of_mem _ wd_355)) (fun _ h9 => h9) rfl dX8_bribes_45 ?_
        refine lv_iload_n hx hb dX8_bribes_48 rfl (lv_at hl 2 rfl) ?_
        refine lv_aload_n hx hb dX8_bribes_49 rfl (lv_at hl 0 rfl) ?_
        refine lv_iload_n hx hb dX8_bribes_50 rfl (lv_at hl 2 rfl) ?_
        obtain ⟨r6, hq7, hf⟩ := zb1_some hf
        refine zcallVi (ws2 := (w8 cI cB hM M_5)) (rest := [.int l2, .ref (hM 31), .int l2, .ref (hM 29)]) ⟨hx, hb, hml, hown, hts⟩ (c_X8_slipNow l D cI cB hM M_5 l2 r6 hq7) (cwV 1 hts (z_gV hG wd_416 wd_418 wd_s9 wd_1 wd_419) rfl rfl rfl q_X8_slipNow ⟨Nat.le_of_ble_eq_true rfl, Nat.le_of_ble_eq_true rfl⟩) hK hP hD hS hA 8 rfl rfl rfl [0, 4, 5, 31] [1, 2, 3, 6, 7, 8, 9, 10, 11, 12, 13, 14, 15, 16, 17, 18, 19, 20, 21, 22, 23, 24, 25, 26, 27, 28, 29, 30, 32, 33, 34, 35, 36, 37, 38, 39, 40, 41, 42, 43, 44] rfl rfl rfl rfl rfl rfl rfl hl.1 (Nat.le_of_ble_eq_true rfl) dX8_bribes_51 ⟨Nat.zero_le _, Nat.zero_le _⟩ rfl (fun H locs hP hD hS => ?_)
        obtain ⟨r8, hq9, hf⟩ := zb1_some hf
        refine zcallVi (ws2 := (w8 cI cB hM M_5)) (rest := [.int l2, .ref (hM 29)]) ⟨hx, hb, hml, hown, hts⟩ (c_X5_cutLength l D cI cB (fun j => hM (31 + j)) (fun j => M_5 (35 + j)) l2 r6 r8 hq9) (cwV 2 hts (z_gV hG wd_431 wd_432 wd_433 wd_10 wd_434) rfl rfl rfl q_X5_cutLength ⟨Nat.le_of_ble_eq_true rfl, Nat.le_of_ble_eq_true rfl⟩) hK hP hD hS hA 5 rfl rfl rfl [31, 32, 33, 34] [0, 1, 2, 3, 4, 5, 6, 7, 8, 9, 10, 11, 12, 13, 14, 15, 16, 17, 18, 19, 20, 21, 22, 23, 24, 25, 26, 27, 28, 29, 30, 35, 36, 37, 38, 39, 40, 41, 42, 43, 44] rfl rfl rfl rfl rfl rfl rfl hl.1 (Nat.le_of_ble_eq_true rfl) dX8_bribes_54 ⟨Nat.zero_le _, Nat.zero_le _⟩ rfl (fun H locs hP hD hS => ?_)
        obtain ⟨i_M_10, M_10, e_M_10, hf⟩ := zw_some hf
        refine va_iast (n := 7) (f := M_5 33) (cA := cI) hx hb hK hP hD hS 29 0 rfl rfl i_M_10 dX8_bribes_57 (fun H locs hP hD hS => ?_)
        have hP : va_P D vwCl (w8 cI cB hM (zs M_5 33 (upd (M_5 33) l2.toNatClampNeg r8))) H := hP
        have hD : va_D A (w8 cI cB hM (zs M_5 33 (upd (M_5 33) l2.toNatClampNeg r8))) := hD
        rw [← e_M_10] at hP hD
        obtain ⟨x11, e_x11, hf⟩ := zv_some hf
        refine lv_iinc (v := x11) (lv' := [(2, .int x11), (0, .ref (hM 0)), (1, .int l1)]) hx hb dX8_bribes_58 hl (k := 2) rfl (by rw [e_x11]; rfl) (by decide) rfl (fun ls hl => ?_)
        refine lv_goto (tgt := 13) hx hb dX8_bribes_61 (by decide) ?_
        exact ih _ _ _ _ hf hk _ _ _ hP hD hS (lv_sub hl [1, 2, 0] rfl)
  unfold f_X8_bribes at hf
  refine lv_iload_n hx hb dX8_bribes_0 rfl (lv_at hl 1 rfl) ?_
  refine lv_if_eq (tgt := 11) hx hb dX8_bribes_1 (by decide) (fun c_1 => ?_) (fun c_1 => ?_)
  · replace hf := zit c_1 hf
    refine lv_iconst (v := 0) hx hb dX8_bribes_11 (by decide) ?_
    refine lv_istore_n (lv' := [(2, .int 0), (0, .ref (hM 0)), (1, .int a1)]) hx hb dX8_bribes_12 rfl hl (by decide) rfl (fun ls hl => ?_)
    obtain ⟨x12, M_13, hq14, hf⟩ := zb2_some hf
    refine L13 _ _ _ _ _ _ hq14 ?_ _ _ _ hP hD hS (lv_sub hl [1, 2, 0] rfl)
    intro H locs ls hP hD hS hl
    refine lv_bipush (v := (-4)) hx hb dX8_bribes_64 (by decide) ?_
    refine lv_istore_n (lv' := [(2, .int (-4)), (0, .ref (hM 0)), (1, .int a1)]) hx hb dX8_bribes_66 rfl hl (by decide) rfl (fun ls hl => ?_)
    refine lv_bipush (v := (-4)) hx hb dX8_bribes_67 (by decide) ?_
    refine lv_istore_n (lv' := [(3, .int (-4)), (2, .int (-4)), (0, .ref (hM 0)), (1, .int a1)]) hx hb dX8_bribes_69 rfl hl (by decide) rfl (fun ls hl => ?_)
    refine lv_iconst (v := 0) hx hb dX8_bribes_70 (by decide) ?_
    refine lv_istore (lv' := [(4, .int 0), (3, .int (-4)), (2, .int (-4)), (0, .ref (hM 0)), (1, .int a1)]) hx hb dX8_bribes_71 hl (by decide) rfl (fun ls hl => ?_)
    obtain ⟨x34, x35, x36, M_37, hq38, hf⟩ := zb4_some hf
    refine L73 _ _ _ _ _ _ _ _ _ _ hq38 ?_ _ _ _ hP hD hS (lv_sub hl [3, 4, 2, 1, 0] rfl)
    intro H locs ls hP hD hS hl
    refine lv_iload_n hx hb dX8_bribes_138 rfl (lv_at hl 1 rfl) ?_
    refine lv_if_ne (tgt := 146) hx hb dX8_bribes_139 (by decide) (fun c_39 => ?_) (fun c_39 => ?_)
    · replace hf := zif c_39 hf
      refine lv_iload_n hx hb dX8_bribes_146 rfl (lv_at hl 2 rfl) ?_
      cases hf
      exact zretI hx hb hr hlocks hK hP hD hS dX8_bribes_147
    · replace hf := zit c_39 hf
      refine lv_iload_n hx hb dX8_bribes_142 rfl (lv_at hl 3 rfl) ?_
      refine lv_goto (tgt := 147) hx hb dX8_bribes_143 (by decide) ?_
      cases hf
      exact zretI hx hb hr hlocks hK hP hD hS dX8_bribes_147
  · replace hf := zif c_1 hf
    refine lv_iload_n hx hb dX8_bribes_4 rfl (lv_at hl 1 rfl) ?_
    refine lv_iconst (v := 1) hx hb dX8_bribes_5 (by decide) ?_
    refine lv_icmp_eq (tgt := 11) hx hb dX8_bribes_6 (by decide) (fun c_40 => ?_) (fun c_40 => ?_)
    · replace hf := zit c_40 hf
      refine lv_iconst (v := 0) hx hb dX8_bribes_11 (by decide) ?_
      refine lv_istore_n (lv' := [(2, .int 0), (0, .ref (hM 0)), (1, .int a1)]) hx hb dX8_bribes_12 rfl hl (by decide) rfl (fun ls hl => ?_)
      obtain ⟨x41, M_42, hq43, hf⟩ := zb2_some hf
      refine L13 _ _ _ _ _ _ hq43 ?_ _ _ _ hP hD hS (lv_sub hl [1, 2, 0] rfl)
      intro H locs ls hP hD hS hl
      refine lv_bipush (v := (-4)) hx hb dX8_bribes_64 (by decide) ?_
      refine lv_istore_n (lv' := [(2, .int (-4)), (0, .ref (hM 0)), (1, .int a1)]) hx hb dX8_bribes_66 rfl hl (by decide) rfl (fun ls hl => ?_)
      refine lv_bipush (v := (-4)) hx hb dX8_bribes_67 (by decide) ?_
      refine lv_istore_n (lv' := [(3, .int (-4)), (2, .int (-4)), (0, .ref (hM 0)), (1, .int a1)]) hx hb dX8_bribes_69 rfl hl (by decide) rfl (fun ls hl => ?_)
      refine lv_iconst (v := 0) hx hb dX8_bribes_70 (by decide) ?_
      refine lv_istore (lv' := [(4, .int 0), (3, .int (-4)), (2, .int (-4)), (0, .ref (hM 0)), (1, .int a1)]) hx hb dX8_bribes_71 hl (by decide) rfl (fun ls hl => ?_)
      obtain ⟨x44, x45, x46, M_47, hq48, hf⟩ := zb4_some hf
      refine L73 _ _ _ _ _ _ _ _ _ _ hq48 ?_ _ _ _ hP hD hS (lv_sub hl [3, 4, 2, 1, 0] rfl)
      intro H locs ls hP hD hS hl
      refine lv_iload_n hx hb dX8_bribes_138 rfl (lv_at hl 1 rfl) ?_
      refine lv_if_ne (tgt := 146) hx hb dX8_bribes_139 (by decide) (fun c_49 => ?_) (fun c_49 => ?_)
      · replace hf := zif c_49 hf
        refine lv_iload_n hx hb dX8_bribes_146 rfl (lv_at hl 2 rfl) ?_
        cases hf
        exact zretI hx hb hr hlocks hK hP hD hS dX8_bribes_147
      · replace hf := zit c_49 hf
        refine lv_iload_n hx hb dX8_bribes_142 rfl (lv_at hl 3 rfl) ?_
        refine lv_goto (tgt := 147) hx hb dX8_bribes_143 (by decide) ?_
        cases hf
        exact zretI hx hb hr hlocks hK hP hD hS dX8_bribes_147
    · replace hf := zif c_40 hf
      refine lv_iconst (v := (-1)) hx hb dX8_bribes_9 (by decide) ?_
      cases hf
      exact zretI hx hb hr hlocks hK hP hD hS dX8_bribes_10
def L_X8_closed_49 (M : zMm) (l1 : Int32) : Nat → Int32 → Int32 → Option (Int32 × Int32)
  | 0, _, _ => none
  | n + 1, l2, l3 => if (M 42 0) ≤ l3 then some (l2, l3) else zl 7 (M 31) l3 (fun v8 => zl 7 (M 34) l3 (fun v9 => zv (l2 + (v8 - v9)) (fun (x10 : Int32) => zv (l3 + 1) (fun (x11 : Int32) => L_X8_closed_49 M l1 n x10 x11))))
def f_X8_closed (M : zMm) (a1 : Int32) : Option (Int32 × zMm) := if a1 = (-1) then zb1 (f_X8_measureNow M) (fun (M_2 : zMm) => zb1 (f_X8_levelSeams M_2) (fun (M_4 : zMm) => if a1 = (-1) then zb2 (L_X8_closed_49 M_4 a1 100000 0 0) (fun (x12 : Int32) (x13 : Int32) => some (x12, M_4)) else zl 7 (M_4 31) a1 (fun v15 => zl 7 (M_4 34) a1 (fun v16 => some (v15 - v16, M_4))))) else zb1 (f_X5_hasPart (fun j => M (35 + j)) a1) (fun (r17 : Int32) => if r17 = 0 then some (((-1) : Int32), M) else zb1 (f_X8_measureNow M) (fun (M_20 : zMm) => zb1 (f_X8_levelSeams M_20) (fun (M_22 : zMm) => if a1 = (-1) then zb2 (L_X8_closed_49 M_22 a1 100000 0 0) (fun (x25 : Int32) (x26 : Int32) => some (x25, M_22)) else zl 7 (M_22 31) a1 (fun v28 => zl 7 (M_22 34) a1 (fun v29 => some (v28 - v29, M_22))))))
abbrev ww_X8_closed : List Cond := Cond.code yX8_closed cX8_closed 4 (some .int) :: wG
theorem q_X8_closed : yX8_closed.cls = RX8 ∧ yX8_closed.cls ≠ "java/lang/invoke/MethodHandle" ∧ yX8_closed.cls ≠ "java/lang/invoke/VarHandle" ∧ (parseMethodDescriptor yX8_closed.desc).map (fun d => d.parameters.length) = some 1 := by decide +kernel
set_option maxHeartbeats 4000000 in
set_option maxRecDepth 100000 in
theorem c_X8_closed (l : Launch) (D : va_G) (cI cB : ClassId) (hM : Nat → Nat) (M : zMm) (a1 : Int32) (r0 : Int32) (M0 : zMm) (hf : f_X8_closed M a1 = some (r0, M0)) : zMi l yX8_closed ww_X8_closed ({ frames := 5, cells := 0, slots := 0, locals := 109 } : Room) D cI cB [.ref (hM 0), .int a1] (w8 cI cB hM M) r0 (w8 cI cB hM M0) := by
  refine zofI (cc := cX8_closed) (maxL := 4) (ret := (some .int)) (by decide +kernel) rfl (Nat.le_of_ble_eq_true rfl) ?_
  intro p e s m below meth c A ls hx hb hml hr hown hts hlocks hK hP hD hS hA hl
  have hl : lv_has ls 4 [(0, .ref (hM 0)), (1, .int a1)] := hl
  have hown : s.vm.findClass RX8 = some m.cls := hown
  have hG : ∀ w ∈ wG, w ∈ ww_X8_closed := fun w h => List.mem_cons_of_mem _ h
  have hi5 : ∀ w ∈ wsX50, w ∈ ww_X8_closed := fun w h => List.mem_cons_of_mem _ (z_inX5 w h)
  have hi8 : ∀ w ∈ wsX80, w ∈ ww_X8_closed := fun w h => List.mem_cons_of_mem _ (z_inX8 w h)
  have L49 : ∀ (M : zMm) (l1 : Int32) (n : Nat) (l2 : Int32) (l3 : Int32) (o2 : Int32) (o3 : Int32), L_X8_closed_49 M l1 n l2 l3 = some (o2, o3) → zAt p l e ({ frames := 5, cells := 0, slots := 0, locals := 109 } : Room) s m [.ref (hM 0), .int a1].toArray below meth c (MQ below (zQi D cI cB r0 (w8 cI cB hM M0) A) [.ref (hM 0), .int a1].toArray s 0 0 A) A D 4 (w8 cI cB hM M) [(0, .ref (hM 0)), (1, .int l1), (2, .int o2), (3, .int o3)] 82 [] → zAt p l e ({ frames := 5, cells := 0, slots := 0, locals := 109 } : Room) s m [.ref (hM 0), .int a1].toArray below meth c (MQ below (zQi D cI cB r0 (w8 cI cB hM M0) A) [.ref (hM 0), .int a1].toArray s 0 0 A) A D 4 (w8 cI cB hM M) [(0, .ref (hM 0)), (1, .int l1), (2, .int l2), (3, .int l3)] 49 [] := by
    intro M l1 n
    induction n with
    | zero => intro l2 l3 o2 o3 hf; simp [L_X8_closed_49] at hf
    | succ n ih =>
      intro l2 l3 o2 o3 hf hk H locs ls hP hD hS hl
      rw [L_X8_closed_49] at hf
      refine lv_iload_n hx hb dX8_closed_49 rfl (lv_at hl 3 rfl) ?_
      refine lv_aload_n hx hb dX8_closed_50 rfl (lv_at hl 0 rfl) ?_
      refine va_get (D := D) (ci := 8) (v := .ref (hM 31)) (C := RX8) (T := TX8) (N := 14) hx hb hts hi8 hown hK hP 0 rfl rfl 12 (Nat.le_of_ble_eq_true rfl) (hts _ (List.mem_cons_of_mem _ wd_355)) (fun _ h9 => h9) rfl dX8_closed_51 ?_
      refine va_get (D := D) (ci := 5) (v := .int (M 42 0)) (C := RX5) (T := TX5) (N := 12) hx hb hts hi5 hown hK hP 31 rfl rfl 7 (Nat.le_of_ble_eq_true rfl) (hts _ (List.mem_cons_of_mem _ wd_196)) (fun _ h9 => h9) rfl dX8_closed_54 ?_
      refine lv_icmp_ge (tgt := 82) hx hb dX8_closed_57 (by decide) (fun c_7 => ?_) (fun c_7 => ?_)
      · replace hf := zit c_7 hf
        cases hf
        exact hk _ _ _ hP hD hS (lv_sub hl [0, 1, 2, 3] rfl)
      · replace hf := zif c_7 hf
        refine lv_iload_n hx hb dX8_closed_60 rfl (lv_at hl 2 rfl) ?_
        refine lv_aload_n hx hb dX8_closed_61 rfl (lv_at hl 0 rfl) ?_
        refine va_get (D := D) (ci := 8) (v := .ref (hM 27)) (C := RX8) (T := TX8) (N := 14) hx hb hts hi8 hown hK hP 0 rfl rfl 8 (Nat.le_of_ble_eq_true rfl) (hts _ (List.mem_cons_of_mem _ wd_351)) (fun _ h9 => h9) rfl dX8_closed_62 ?_
        refine lv_iload_n hx hb dX8_closed_65 rfl (lv_at hl 3 rfl) ?_
        obtain ⟨i_v8, v8, e_v8, hf⟩ := zl_some hf
        refine va_iald (n := 7) (f := M 31) (cA := cI) hx hb hK hP 27 0 rfl rfl i_v8 dX8_closed_66 ?_
        refine zt e_v8 ?_
        refine lv_aload_n hx hb dX8_closed_67 rfl (lv_at hl 0 rfl) ?_
        refine va_get (D := D) (ci := 8) (v := .ref (hM 30)) (C := RX8) (T := TX8) (N := 14) hx hb hts hi8 hown hK hP 0 rfl rfl 11 (Nat.le_of_ble_eq_true rfl) (hts _ (List.mem_cons_of_mem _ wd_354)) (fun _ h9 => h9) rfl dX8_closed_68 ?_
        refine lv_iload_n hx hb dX8_closed_71 rfl (lv_at hl 3 rfl) ?_
        obtain ⟨i_v9, v9, e_v9, hf⟩ := zl_some hf
        refine va_iald (n := 7) (f := M 34) (cA := cI) hx hb hK hP 30 0 rfl rfl i_v9 dX8_closed_72 ?_
        refine zt e_v9 ?_
        refine lv_isub hx hb dX8_closed_73 ?_
        refine lv_iadd hx hb dX8_closed_74 ?_
        obtain ⟨x10, e_x10, hf⟩ := zv_some hf
        refine zt e_x10 ?_
        refine lv_istore_n (lv' := [(2, .int x10), (0, .ref (hM 0)), (1, .int l1), (3, .int l3)]) hx hb dX8_closed_75 rfl hl (by decide) rfl (fun ls hl => ?_)
        obtain ⟨x11, e_x11, hf⟩ := zv_some hf
        refine lv_iinc (v := x11) (lv' := [(3, .int x11), (2, .int x10), (0, .ref (hM 0)), (1, .int l1)]) hx hb dX8_closed_76 hl (k := 3) rfl (by rw [e_x11]; rfl) (by decide) rfl (fun ls hl => ?_)
        refine lv_goto (tgt := 49) hx hb dX8_closed_79 (by decide) ?_
        exact ih _ _ _ _ hf hk _ _ _ hP hD hS (lv_sub hl [2, 3, 1, 0] rfl)
  unfold f_X8_closed at hf
  refine lv_iload_n hx hb dX8_closed_0 rfl (lv_at hl 1 rfl) ?_
  refine lv_iconst (v := (-1)) hx hb dX8_closed_1 (by decide) ?_
  refine lv_icmp_eq (tgt := 18) hx hb dX8_closed_2 (by decide) (fun c_1 => ?_) (fun c_1 => ?_)
  · replace hf := zit c_1 hf
    refine lv_aload_n hx hb dX8_closed_18 rfl (lv_at hl 0 rfl) ?_
    obtain ⟨M_2, hq3, hf⟩ := zb1_some hf
    refine zcallVv (ws2 := (w8 cI cB hM M_2)) (rest := []) ⟨hx, hb, hml, hown, hts⟩ (c_X8_measureNow l D cI cB hM M M_2 hq3) (cwV 0 hts (z_gV hG wd_450 wd_452 wd_s11 wd_1 wd_453) rfl rfl rfl q_X8_measureNow ⟨Nat.le_of_ble_eq_true rfl, Nat.le_of_ble_eq_true rfl⟩) hK hP hD hS hA 8 rfl rfl rfl [0, 1, 2, 3, 4, 5, 6, 7, 8, 9, 10, 11, 12, 13, 14, 15, 16, 17, 18, 19, 20, 21, 22, 23, 24, 25, 26, 27, 28, 29, 30, 31, 32, 33, 34, 35, 36, 37, 38, 39, 40, 41, 42, 43, 44] [] rfl rfl rfl rfl rfl rfl rfl hl.1 (Nat.le_of_ble_eq_true rfl) dX8_closed_19 ⟨Nat.zero_le _, Nat.zero_le _⟩ rfl (fun H locs hP hD hS => ?_)
    refine lv_aload_n hx hb dX8_closed_22 rfl (lv_at hl 0 rfl) ?_
    obtain ⟨M_4, hq5, hf⟩ := zb1_some hf
    refine zcallVv (ws2 := (w8 cI cB hM M_4)) (rest := []) ⟨hx, hb, hml, hown, hts⟩ (c_X8_levelSeams l D cI cB hM M_2 M_4 hq5) (cwV 0 hts (z_gV hG wd_542 wd_544 wd_s17 wd_1 wd_545) rfl rfl rfl q_X8_levelSeams ⟨Nat.le_of_ble_eq_true rfl, Nat.le_of_ble_eq_true rfl⟩) hK hP hD hS hA 8 rfl rfl rfl [0, 1, 2, 3, 4, 5, 6, 7, 8, 9, 10, 11, 12, 13, 14, 15, 16, 17, 18, 19, 20, 21, 22, 23, 24, 25, 26, 27, 28, 29, 30, 31, 32, 33, 34, 35, 36, 37, 38, 39, 40, 41, 42, 43, 44] [] rfl rfl rfl rfl rfl rfl rfl hl.1 (Nat.le_of_ble_eq_true rfl) dX8_closed_23 ⟨Nat.zero_le _, Nat.zero_le _⟩ rfl (fun H locs hP hD hS => ?_)
    refine lv_iload_n hx hb dX8_closed_26 rfl (lv_at hl 1 rfl) ?_
    refine lv_iconst (v := (-1)) hx hb dX8_closed_27 (by decide) ?_
    refine lv_icmp_eq (tgt := 45) hx hb dX8_closed_28 (by decide) (fun c_6 => ?_) (fun c_6 => ?_)
    · replace hf := zit c_6 hf
      refine lv_iconst (v := 0) hx hb dX8_closed_45 (by decide) ?_
      refine lv_istore_n (lv' := [(2, .int 0), (0, .ref (hM 0)), (1, .int a1)]) hx hb dX8_closed_46 rfl hl (by decide) rfl (fun ls hl => ?_)
      refine lv_iconst (v := 0) hx hb dX8_closed_47 (by decide) ?_
      refine lv_istore_n (lv' := [(3, .int 0), (2, .int 0), (0, .ref (hM 0)), (1, .int a1)]) hx hb dX8_closed_48 rfl hl (by decide) rfl (fun ls hl => ?_)
      obtain ⟨x12, x13, hq14, hf⟩ := zb2_some hf
      refine L49 _ _ _ _ _ _ _ hq14 ?_ _ _ _ hP hD hS (lv_sub hl [2, 3, 1, 0] rfl)
      intro H locs ls hP hD hS hl
      refine lv_iload_n hx hb dX8_closed_82 rfl (lv_at hl 2 rfl) ?_
      cases hf
      exact zretI hx hb hr hlocks hK hP hD hS dX8_closed_83
    · replace hf := zif c_6 hf
      refine lv_aload_n hx hb dX8_closed_31 rfl (lv_at hl 0 rfl) ?_
      refine va_get (D := D) (ci := 8) (v := .ref (hM 27)) (C := RX8) (T := TX8) (N := 14) hx hb hts hi8 hown hK hP 0 rfl rfl 8 (Nat.le_of_ble_eq_true rfl) (hts _ (List.mem_cons_of_mem _ wd_351)) (fun _ h9 => h9) rfl dX8_closed_32 ?_
      refine lv_iload_n hx hb dX8_closed_35 rfl (lv_at hl 1 rfl) ?_
      obtain ⟨i_v15, v15, e_v15, hf⟩ := zl_some hf
      refine va_iald (n := 7) (f := M_4 31) (cA := cI) hx hb hK hP 27 0 rfl rfl i_v15 dX8_closed_36 ?_
      refine zt e_v15 ?_
      refine lv_aload_n hx hb dX8_closed_37 rfl (lv_at hl 0 rfl) ?_
      refine va_get (D := D) (ci := 8) (v := .ref (hM 30)) (C := RX8) (T := TX8) (N := 14) hx hb hts hi8 hown hK hP 0 rfl rfl 11 (Nat.le_of_ble_eq_true rfl) (hts _ (List.mem_cons_of_mem _ wd_354)) (fun _ h9 => h9) rfl dX8_closed_38 ?_
      refine lv_iload_n hx hb dX8_closed_41 rfl (lv_at hl 1 rfl) ?_
      obtain ⟨i_v16, v16, e_v16, hf⟩ := zl_some hf
      refine va_iald (n := 7) (f := M_4 34) (cA := cI) hx hb hK hP 30 0 rfl rfl i_v16 dX8_closed_42 ?_
      refine zt e_v16 ?_
      refine lv_isub hx hb dX8_closed_43 ?_
      cases hf
      exact zretI hx hb hr hlocks hK hP hD hS dX8_closed_44
  · replace hf := zif c_1 hf
    refine lv_aload_n hx hb dX8_closed_5 rfl (lv_at hl 0 rfl) ?_
    refine va_get (D := D) (ci := 8) (v := .ref (hM 31)) (C := RX8) (T := TX8) (N := 14) hx hb hts hi8 hown hK hP 0 rfl rfl 12 (Nat.le_of_ble_eq_true rfl) (hts _ (List.mem_cons_of_mem _ wd_355)) (fun _ h9 => h9) rfl dX8_closed_6 ?_
    refine lv_iload_n hx hb dX8_closed_9 rfl (lv_at hl 1 rfl) ?_
    obtain ⟨r17, hq18, hf⟩ := zb1_some hf
    refine zcallVi (ws2 := (w8 cI cB hM M)) (rest := []) ⟨hx, hb, hml, hown, hts⟩ (c_X5_hasPart l D cI cB (fun j => hM (31 + j)) (fun j => M (35 + j)) a1 r17 hq18) (cwV 1 hts (z_gV hG wd_411 wd_328 wd_329 wd_10 wd_330) rfl rfl rfl q_X5_hasPart ⟨Nat.le_of_ble_eq_true rfl, Nat.le_of_ble_eq_true rfl⟩) hK hP hD hS hA 5 rfl rfl rfl [31] [0, 1, 2, 3, 4, 5, 6, 7, 8, 9, 10, 11, 12, 13, 14, 15, 16, 17, 18, 19, 20, 21, 22, 23, 24, 25, 26, 27, 28, 29, 30, 32, 33, 34, 35, 36, 37, 38, 39, 40, 41, 42, 43, 44] rfl rfl rfl rfl rfl rfl rfl hl.1 (Nat.le_of_ble_eq_true rfl) dX8_closed_10 ⟨Nat.zero_le _, Nat.zero_le _⟩ rfl (fun H locs hP hD hS => ?_)
    refine lv_if_ne (tgt := 18) hx hb dX8_closed_13 (by decide) (fun c_19 => ?_) (fun c_19 => ?_)
    · replace hf := zif c_19 hf
      refine lv_aload_n hx hb dX8_closed_18 rfl (lv_at hl 0 rfl) ?_
      obtain ⟨M_20, hq21, hf⟩ := zb1_some hf
      refine zcallVv (ws2 := (w8 cI cB hM M_20)) (rest := []) ⟨hx, hb, hml, hown, hts⟩ (c_X8_measureNow l D cI cB hM M M_20 hq21) (cwV 0 hts (z_gV hG wd_450 wd_452 wd_s11 wd_1 wd_453) rfl rfl rfl q_X8_measureNow ⟨Nat.le_of_ble_eq_true rfl, Nat.le_of_ble_eq_true rfl⟩) hK hP hD hS hA 8 rfl rfl rfl [0, 1, 2, 3, 4, 5, 6, 7, 8, 9, 10, 11, 12, 13, 14, 15, 16, 17, 18, 19, 20, 21, 22, 23, 24, 25, 26, 27, 28, 29, 30, 31, 32, 33, 34, 35, 36, 37, 38, 39, 40, 41, 42, 43, 44] [] rfl rfl rfl rfl rfl rfl rfl hl.1 (Nat.le_of_ble_eq_true rfl) dX8_closed_19 ⟨Nat.zero_le _, Nat.zero_le _⟩ rfl (fun H locs hP hD hS => ?_)
      refine lv_aload_n hx hb dX8_closed_22 rfl (lv_at hl 0 rfl) ?_
      obtain ⟨M_22, hq23, hf⟩ := zb1_some hf
      refine zcallVv (ws2 := (w8 cI cB hM M_22)) (rest := []) ⟨hx, hb, hml, hown, hts⟩ (c_X8_levelSeams l D cI cB hM M_20 M_22 hq23) (cwV 0 hts (z_gV hG wd_542 wd_544 wd_s17 wd_1 wd_545) rfl rfl rfl q_X8_levelSeams ⟨Nat.le_of_ble_eq_true rfl, Nat.le_of_ble_eq_true rfl⟩) hK hP hD hS hA 8 rfl rfl rfl [0, 1, 2, 3, 4, 5, 6, 7, 8, 9, 10, 11, 12, 13, 14, 15, 16, 17, 18, 19, 20, 21, 22, 23, 24, 25, 26, 27, 28, 29, 30, 31, 32, 33, 34, 35, 36, 37, 38, 39, 40, 41, 42, 43, 44] [] rfl rfl rfl rfl rfl rfl rfl hl.1 (Nat.le_of_ble_eq_true rfl) dX8_closed_23 ⟨Nat.zero_le _, Nat.zero_le _⟩ rfl (fun H locs hP hD hS => ?_)
      refine lv_iload_n hx hb dX8_closed_26 rfl (lv_at hl 1 rfl) ?_
      refine lv_iconst (v := (-1)) hx hb dX8_closed_27 (by decide) ?_
      refine lv_icmp_eq (tgt := 45) hx hb dX8_closed_28 (by decide) (fun c_24 => ?_) (fun c_24 => ?_)
      · replace hf := zit c_24 hf
        refine lv_iconst (v := 0) hx hb dX8_closed_45 (by decide) ?_
        refine lv_istore_n (lv' := [(2, .int 0), (0, .ref (hM 0)), (1, .int a1)]) hx hb dX8_closed_46 rfl hl (by decide) rfl (fun ls hl => ?_)
        refine lv_iconst (v := 0) hx hb dX8_closed_47 (by decide) ?_
        refine lv_istore_n (lv' := [(3, .int 0), (2, .int 0), (0, .ref (hM 0)), (1, .int a1)]) hx hb dX8_closed_48 rfl hl (by decide) rfl (fun ls hl => ?_)
        obtain ⟨x25, x26, hq27, hf⟩ := zb2_some hf
        refine L49 _ _ _ _ _ _ _ hq27 ?_ _ _ _ hP hD hS (lv_sub hl [2, 3, 1, 0] rfl)
        intro H locs ls hP hD hS hl
        refine lv_iload_n hx hb dX8_closed_82 rfl (lv_at hl 2 rfl) ?_
        cases hf
        exact zretI hx hb hr hlocks hK hP hD hS dX8_closed_83
      · replace hf := zif c_24 hf
        refine lv_aload_n hx hb dX8_closed_31 rfl (lv_at hl 0 rfl) ?_
        refine va_get (D := D) (ci := 8) (v := .ref (hM 27)) (C := RX8) (T := TX8) (N := 14) hx hb hts hi8 hown hK hP 0 rfl rfl 8 (Nat.le_of_ble_eq_true rfl) (hts _ (List.mem_cons_of_mem _ wd_351)) (fun _ h9 => h9) rfl dX8_closed_32 ?_
        refine lv_iload_n hx hb dX8_closed_35 rfl (lv_at hl 1 rfl) ?_
        obtain ⟨i_v28, v28, e_v28, hf⟩ := zl_some hf
        refine va_iald (n := 7) (f := M_22 31) (cA := cI) hx hb hK hP 27 0 rfl rfl i_v28 dX8_closed_36 ?_
        refine zt e_v28 ?_
        refine lv_aload_n hx hb dX8_closed_37 rfl (lv_at hl 0 rfl) ?_
        refine va_get (D := D) (ci := 8) (v := .ref (hM 30)) (C := RX8) (T := TX8) (N := 14) hx hb hts hi8 hown hK hP 0 rfl rfl 11 (Nat.le_of_ble_eq_true rfl) (hts _ (List.mem_cons_of_mem _ wd_354)) (fun _ h9 => h9) rfl dX8_closed_38 ?_
        refine lv_iload_n hx hb dX8_closed_41 rfl (lv_at hl 1 rfl) ?_
        obtain ⟨i_v29, v29, e_v29, hf⟩ := zl_some hf
        refine va_iald (n := 7) (f := M_22 34) (cA := cI) hx hb hK hP 30 0 rfl rfl i_v29 dX8_closed_42 ?_
        refine zt e_v29 ?_
        refine lv_isub hx hb dX8_closed_43 ?_
        cases hf
        exact zretI hx hb hr hlocks hK hP hD hS dX8_closed_44
    · replace hf := zit c_19 hf
      refine lv_iconst (v := (-1)) hx hb dX8_closed_16 (by decide) ?_
      cases hf
      exact zretI hx hb hr hlocks hK hP hD hS dX8_closed_17
def f_X8_seen (M : zMm) (a1 : Int32) (a2 : Int32) (a3 : Int32) : Option (Int32 × zMm) := zb1 (f_X5_hasTailor (fun j => M (35 + j)) a1) (fun (r1 : Int32) => if r1 = 0 then some (((-1) : Int32), M) else if a2 < 10 then some (((-1) : Int32), M) else if (199 : Int32) < a2 then some (((-1) : Int32), M) else zb1 (f_X8_isLength a3) (fun (r6 : Int32) => if r6 = 0 then some (((-1) : Int32), M) else if (M 18 0) < 10 then zb1 (f_X6_add (fun j => M (15 + j)) a1 a2 a3) (fun (M_10 : zMm) => zv (zp M 15 4 M_10) (fun (M_12 : zMm) => some (M_12 18 0, M_12))) else some (((-3) : Int32), M)))
abbrev ww_X8_seen : List Cond := Cond.code yX8_seen cX8_seen 4 (some .int) :: wG
theorem q_X8_seen : yX8_seen.cls = RX8 ∧ yX8_seen.cls ≠ "java/lang/invoke/MethodHandle" ∧ yX8_seen.cls ≠ "java/lang/invoke/VarHandle" ∧ (parseMethodDescriptor yX8_seen.desc).map (fun d => d.parameters.length) = some 3 := by decide +kernel
set_option maxHeartbeats 4000000 in
set_option maxRecDepth 100000 in
theorem c_X8_seen (l : Launch) (D : va_G) (cI cB : ClassId) (hM : Nat → Nat) (M : zMm) (a1 : Int32) (a2 : Int32) (a3 : Int32) (r0 : Int32) (M0 : zMm) (hf : f_X8_seen M a1 a2 a3 = some (r0, M0)) : zMi l yX8_seen ww_X8_seen ({ frames := 1, cells := 0, slots := 0, locals := 23 } : Room) D cI cB [.ref (hM 0), .int a1, .int a2, .int a3] (w8 cI cB hM M) r0 (w8 cI cB hM M0) := by
  refine zofI (cc := cX8_seen) (maxL := 4) (ret := (some .int)) (by decide +kernel) rfl (Nat.le_of_ble_eq_true rfl) ?_
  intro p e s m below meth c A ls hx hb hml hr hown hts hlocks hK hP hD hS hA hl
  have hl : lv_has ls 4 [(0, .ref (hM 0)), (1, .int a1), (2, .int a2), (3, .int a3)] := hl
  have hown : s.vm.findClass RX8 = some m.cls := hown
  have hG : ∀ w ∈ wG, w ∈ ww_X8_seen := fun w h => List.mem_cons_of_mem _ h
  have hi6 : ∀ w ∈ wsX60, w ∈ ww_X8_seen := fun w h => List.mem_cons_of_mem _ (z_inX6 w h)
  have hi8 : ∀ w ∈ wsX80, w ∈ ww_X8_seen := fun w h => List.mem_cons_of_mem _ (z_inX8 w h)
  unfold f_X8_seen at hf
  refine lv_aload_n hx hb dX8_seen_0 rfl (lv_at hl 0 rfl) ?_
  refine va_get (D := D) (ci := 8) (v := .ref (hM 31)) (C := RX8) (T := TX8) (N := 14) hx hb hts hi8 hown hK hP 0 rfl rfl 12 (Nat.le_of_ble_eq_true rfl) (hts _ (List.mem_cons_of_mem _ wd_355)) (fun _ h9 => h9) rfl dX8_seen_1 ?_
  refine lv_iload_n hx hb dX8_seen_4 rfl (lv_at hl 1 rfl) ?_
  obtain ⟨r1, hq2, hf⟩ := zb1_some hf
  refine zcallVi (ws2 := (w8 cI cB hM M)) (rest := []) ⟨hx, hb, hml, hown, hts⟩ (c_X5_hasTailor l D cI cB (fun j => hM (31 + j)) (fun j => M (35 + j)) a1 r1 hq2) (cwV 1 hts (z_gV hG wd_551 wd_320 wd_321 wd_10 wd_322) rfl rfl rfl q_X5_hasTailor ⟨Nat.le_of_ble_eq_true rfl, Nat.le_of_ble_eq_true rfl⟩) hK hP hD hS hA 5 rfl rfl rfl [31] [0, 1, 2, 3, 4, 5, 6, 7, 8, 9, 10, 11, 12, 13, 14, 15, 16, 17, 18, 19, 20, 21, 22, 23, 24, 25, 26, 27, 28, 29, 30, 32, 33, 34, 35, 36, 37, 38, 39, 40, 41, 42, 43, 44] rfl rfl rfl rfl rfl rfl rfl hl.1 (Nat.le_of_ble_eq_true rfl) dX8_seen_5 ⟨Nat.zero_le _, Nat.zero_le _⟩ rfl (fun H locs hP hD hS => ?_)
  refine lv_if_eq (tgt := 31) hx hb dX8_seen_8 (by decide) (fun c_3 => ?_) (fun c_3 => ?_)
  · replace hf := zit c_3 hf
    refine lv_iconst (v := (-1)) hx hb dX8_seen_31 (by decide) ?_
    cases hf
    exact zretI hx hb hr hlocks hK hP hD hS dX8_seen_32
  · replace hf := zif c_3 hf
    refine lv_iload_n hx hb dX8_seen_11 rfl (lv_at hl 2 rfl) ?_
    refine lv_bipush (v := 10) hx hb dX8_seen_12 (by decide) ?_
    refine lv_icmp_lt (tgt := 31) hx hb dX8_seen_14 (by decide) (fun c_4 => ?_) (fun c_4 => ?_)
    · replace hf := zit c_4 hf
      refine lv_iconst (v := (-1)) hx hb dX8_seen_31 (by decide) ?_
      cases hf
      exact zretI hx hb hr hlocks hK hP hD hS dX8_seen_32
    · replace hf := zif c_4 hf
      refine lv_iload_n hx hb dX8_seen_17 rfl (lv_at hl 2 rfl) ?_
      refine lv_sipush (v := 199) hx hb dX8_seen_18 (by decide) ?_
      refine lv_icmp_gt (tgt := 31) hx hb dX8_seen_21 (by decide) (fun c_5 => ?_) (fun c_5 => ?_)
      · replace hf := zit c_5 hf
        refine lv_iconst (v := (-1)) hx hb dX8_seen_31 (by decide) ?_
        cases hf
        exact zretI hx hb hr hlocks hK hP hD hS dX8_seen_32
      · replace hf := zif c_5 hf
        refine lv_iload_n hx hb dX8_seen_24 rfl (lv_at hl 3 rfl) ?_
        obtain ⟨r6, hq7, hf⟩ := zb1_some hf
        refine zcallSi (rest := []) ⟨hx, hb, hml, hown, hts⟩ (c_X8_isLength l D cI cB a3 r6 hq7) (z_cwS 1 hts (z_gS hG wd_552 wd_553 wd_1 wd_554) rfl rfl rfl q_X8_isLength ⟨Nat.le_of_ble_eq_true rfl, Nat.le_of_ble_eq_true rfl⟩) hK hP hD hS hA rfl hl.1 (Nat.le_of_ble_eq_true rfl) dX8_seen_25 ⟨Nat.zero_le _, Nat.zero_le _⟩ rfl (fun H locs hP hD hS => ?_)
        refine lv_if_ne (tgt := 33) hx hb dX8_seen_28 (by decide) (fun c_8 => ?_) (fun c_8 => ?_)
        · replace hf := zif c_8 hf
          refine lv_aload_n hx hb dX8_seen_33 rfl (lv_at hl 0 rfl) ?_
          refine va_get (D := D) (ci := 8) (v := .ref (hM 13)) (C := RX8) (T := TX8) (N := 14) hx hb hts hi8 hown hK hP 0 rfl rfl 4 (Nat.le_of_ble_eq_true rfl) (hts _ (List.mem_cons_of_mem _ wd_347)) (fun _ h9 => h9) rfl dX8_seen_34 ?_
          refine va_get (D := D) (ci := 6) (v := .int (M 18 0)) (C := RX6) (T := TX6) (N := 4) hx hb hts hi6 hown hK hP 13 rfl rfl 3 (Nat.le_of_ble_eq_true rfl) (hts _ (List.mem_cons_of_mem _ wd_99)) (fun _ h9 => h9) rfl dX8_seen_37 ?_
          refine lv_bipush (v := 10) hx hb dX8_seen_40 (by decide) ?_
          refine lv_icmp_lt (tgt := 48) hx hb dX8_seen_42 (by decide) (fun c_9 => ?_) (fun c_9 => ?_)
          · replace hf := zit c_9 hf
            refine lv_aload_n hx hb dX8_seen_48 rfl (lv_at hl 0 rfl) ?_
            refine va_get (D := D) (ci := 8) (v := .ref (hM 13)) (C := RX8) (T := TX8) (N := 14) hx hb hts hi8 hown hK hP 0 rfl rfl 4 (Nat.le_of_ble_eq_true rfl) (hts _ (List.mem_cons_of_mem _ wd_347)) (fun _ h9 => h9) rfl dX8_seen_49 ?_
            refine lv_iload_n hx hb dX8_seen_52 rfl (lv_at hl 1 rfl) ?_
            refine lv_iload_n hx hb dX8_seen_53 rfl (lv_at hl 2 rfl) ?_
            refine lv_iload_n hx hb dX8_seen_54 rfl (lv_at hl 3 rfl) ?_
            obtain ⟨M_10, hq11, hf⟩ := zb1_some hf
            refine zcallVv (ws2 := (w8 cI cB hM (zp M 15 4 M_10))) (rest := []) ⟨hx, hb, hml, hown, hts⟩ (c_X6_add l D cI cB (fun j => hM (13 + j)) (fun j => M (15 + j)) a1 a2 a3 M_10 hq11) (cwV 3 hts (z_gV hG wd_555 wd_556 wd_557 wd_6 wd_558) rfl rfl rfl q_X6_add ⟨Nat.le_of_ble_eq_true rfl, Nat.le_of_ble_eq_true rfl⟩) hK hP hD hS hA 6 rfl rfl rfl [13, 14, 15, 16] [0, 1, 2, 3, 4, 5, 6, 7, 8, 9, 10, 11, 12, 17, 18, 19, 20, 21, 22, 23, 24, 25, 26, 27, 28, 29, 30, 31, 32, 33, 34, 35, 36, 37, 38, 39, 40, 41, 42, 43, 44] rfl rfl rfl (z_em ⟨rfl, rfl, rfl, rfl, rfl, rfl, rfl, rfl, rfl, rfl, rfl, rfl, rfl, rfl, rfl, rfl, rfl, rfl, rfl, rfl, rfl, rfl, rfl, rfl, rfl, rfl, rfl, rfl, rfl, rfl, rfl, rfl, rfl, rfl, rfl, rfl, rfl, rfl, rfl, rfl, rfl, trivial⟩) rfl rfl rfl hl.1 (Nat.le_of_ble_eq_true rfl) dX8_seen_55 ⟨Nat.zero_le _, Nat.zero_le _⟩ rfl (fun H locs hP hD hS => ?_)
            obtain ⟨M_12, e_M_12, hf⟩ := zv_some hf
            rw [← e_M_12] at hP hD
            refine lv_aload_n hx hb dX8_seen_58 rfl (lv_at hl 0 rfl) ?_
            refine va_get (D := D) (ci := 8) (v := .ref (hM 13)) (C := RX8) (T := TX8) (N := 14) hx hb hts hi8 hown hK hP 0 rfl rfl 4 (Nat.le_of_ble_eq_true rfl) (hts _ (List.mem_cons_of_mem _ wd_347)) (fun _ h9 => h9) rfl dX8_seen_59 ?_
            refine va_get (D := D) (ci := 6) (v := .int (M_12 18 0)) (C := RX6) (T := TX6) (N := 4) hx hb hts hi6 hown hK hP 13 rfl rfl 3 (Nat.le_of_ble_eq_true rfl) (hts _ (List.mem_cons_of_mem _ wd_99)) (fun _ h9 => h9) rfl dX8_seen_62 ?_
            cases hf
            exact zretI hx hb hr hlocks hK hP hD hS dX8_seen_65
          · replace hf := zif c_9 hf
            refine lv_bipush (v := (-3)) hx hb dX8_seen_45 (by decide) ?_
            cases hf
            exact zretI hx hb hr hlocks hK hP hD hS dX8_seen_47
        · replace hf := zit c_8 hf
          refine lv_iconst (v := (-1)) hx hb dX8_seen_31 (by decide) ?_
          cases hf
          exact zretI hx hb hr hlocks hK hP hD hS dX8_seen_32
def f_X8_forget (M : zMm) : Option (Int32 × zMm) := zv (M 18 0) (fun (x1 : Int32) => zv (zs M 18 (fun _ => 0)) (fun (M_2 : zMm) => some (x1, M_2)))
abbrev ww_X8_forget : List Cond := Cond.code yX8_forget cX8_forget 2 (some .int) :: wG
theorem q_X8_forget : yX8_forget.cls = RX8 ∧ yX8_forget.cls ≠ "java/lang/invoke/MethodHandle" ∧ yX8_forget.cls ≠ "java/lang/invoke/VarHandle" ∧ (parseMethodDescriptor yX8_forget.desc).map (fun d => d.parameters.length) = some 0 := by decide +kernel
set_option maxHeartbeats 4000000 in
set_option maxRecDepth 100000 in
theorem c_X8_forget (l : Launch) (D : va_G) (cI cB : ClassId) (hM : Nat → Nat) (M : zMm) (r0 : Int32) (M0 : zMm) (hf : f_X8_forget M = some (r0, M0)) : zMi l yX8_forget ww_X8_forget ({ frames := 0, cells := 0, slots := 0, locals := 0 } : Room) D cI cB [.ref (hM 0)] (w8 cI cB hM M) r0 (w8 cI cB hM M0) := by
  refine zofI (cc := cX8_forget) (maxL := 2) (ret := (some .int)) (by decide +kernel) rfl (Nat.le_of_ble_eq_true rfl) ?_
  intro p e s m below meth c A ls hx hb hml hr hown hts hlocks hK hP hD hS hA hl
  have hl : lv_has ls 2 [(0, .ref (hM 0))] := hl
  have hown : s.vm.findClass RX8 = some m.cls := hown
  have hG : ∀ w ∈ wG, w ∈ ww_X8_forget := fun w h => List.mem_cons_of_mem _ h
  have hi6 : ∀ w ∈ wsX60, w ∈ ww_X8_forget := fun w h => List.mem_cons_of_mem _ (z_inX6 w h)
  have hi8 : ∀ w ∈ wsX80, w ∈ ww_X8_forget := fun w h => List.mem_cons_of_mem _ (z_inX8 w h)
  unfold f_X8_forget at hf
  refine lv_aload_n hx hb dX8_forget_0 rfl (lv_at hl 0 rfl) ?_
  refine va_get (D := D) (ci := 8) (v := .ref (hM 13)) (C := RX8) (T := TX8) (N := 14) hx hb hts hi8 hown hK hP 0 rfl rfl 4 (Nat.le_of_ble_eq_true rfl) (hts _ (List.mem_cons_of_mem _ wd_347)) (fun _ h9 => h9) rfl dX8_forget_1 ?_
  refine va_get (D := D) (ci := 6) (v := .int (M 18 0)) (C := RX6) (T := TX6) (N := 4) hx hb hts hi6 hown hK hP 13 rfl rfl 3 (Nat.le_of_ble_eq_true rfl) (hts _ (List.mem_cons_of_mem _ wd_99)) (fun _ h9 => h9) rfl dX8_forget_4 ?_
  obtain ⟨x1, e_x1, hf⟩ := zv_some hf
  refine zt e_x1 ?_
  refine lv_istore_n (lv' := [(1, .int x1), (0, .ref (hM 0))]) hx hb dX8_forget_7 rfl hl (by decide) rfl (fun ls hl => ?_)
  refine lv_aload_n hx hb dX8_forget_8 rfl (lv_at hl 1 rfl) ?_
  refine va_get (D := D) (ci := 8) (v := .ref (hM 13)) (C := RX8) (T := TX8) (N := 14) hx hb hts hi8 hown hK hP 0 rfl rfl 4 (Nat.le_of_ble_eq_true rfl) (hts _ (List.mem_cons_of_mem _ wd_347)) (fun _ h9 => h9) rfl dX8_forget_9 ?_
  refine lv_iconst (v := 0) hx hb dX8_forget_12 (by decide) ?_
  obtain ⟨M_2, e_M_2, hf⟩ := zv_some hf
  refine va_put (D := D) (ci := 6) (v := .int 0) (ty := .int) (C := RX6) (T := TX6) (N := 4) hx hb hts hi6 tyX6 tyX6_ok nmX6 hown hK hP hD hS 13 rfl rfl 3 (Nat.le_of_ble_eq_true rfl) (hts _ (List.mem_cons_of_mem _ wd_99)) (fun _ h9 => h9) rfl (by decide +kernel) rfl rfl (Nat.le_of_ble_eq_true rfl) dX8_forget_13 (fun H locs hP hD hS => ?_)
  have hP : va_P D vwCl (w8 cI cB hM (zs M 18 (fun _ => 0))) H := hP
  have hD : va_D A (w8 cI cB hM (zs M 18 (fun _ => 0))) := hD
  rw [← e_M_2] at hP hD
  refine lv_iload_n hx hb dX8_forget_16 rfl (lv_at hl 0 rfl) ?_
  cases hf
  exact zretI hx hb hr hlocks hK hP hD hS dX8_forget_17
def L_X8_inch_32 (M : zMm) (l1 : Int32) (l2 : Int32) : Nat → Int32 → Int32 → Int32 → Option (Int32 × Int32 × Int32)
  | 0, _, _, _ => none
  | n + 1, l3, l4, l5 => if l5 < 80 then some (l3, l4, l5) else zb1 (f_X6_agreeWith (fun j => M (15 + j)) l1 l5) (fun (r6 : Int32) => zb2 (if r6 = 0 then some (l3, l4) else zv (l3 + 1) (fun (x13 : Int32) => some (x13, l5))) (fun (x9 : Int32) (x10 : Int32) => zv (l5 + (-1)) (fun (x14 : Int32) => L_X8_inch_32 M l1 l2 n x9 x10 x14)))
def f_X8_inch (M : zMm) (a1 : Int32) (a2 : Int32) : Option (Int32) := zb1 (f_X5_hasTailor (fun j => M (35 + j)) a1) (fun (r1 : Int32) => if r1 = 0 then some ((-1) : Int32) else if a2 = 0 then zb3 (L_X8_inch_32 M a1 a2 100000 0 (-4) 120) (fun (x15 : Int32) (x16 : Int32) (x17 : Int32) => if a2 = 0 then some x15 else some x16) else if a2 = 1 then zb3 (L_X8_inch_32 M a1 a2 100000 0 (-4) 120) (fun (x21 : Int32) (x22 : Int32) (x23 : Int32) => if a2 = 0 then some x21 else some x22) else some ((-1) : Int32))
abbrev ww_X8_inch : List Cond := Cond.code yX8_inch cX8_inch 6 (some .int) :: wG
theorem q_X8_inch : yX8_inch.cls = RX8 ∧ yX8_inch.cls ≠ "java/lang/invoke/MethodHandle" ∧ yX8_inch.cls ≠ "java/lang/invoke/VarHandle" ∧ (parseMethodDescriptor yX8_inch.desc).map (fun d => d.parameters.length) = some 2 := by decide +kernel
set_option maxHeartbeats 4000000 in
set_option maxRecDepth 100000 in
theorem c_X8_inch (l : Launch) (D : va_G) (cI cB : ClassId) (hM : Nat → Nat) (M : zMm) (a1 : Int32) (a2 : Int32) (r0 : Int32) (hf : f_X8_inch M a1 a2 = some r0) : zMi l yX8_inch ww_X8_inch ({ frames := 2, cells := 0, slots := 0, locals := 44 } : Room) D cI cB [.ref (hM 0), .int a1, .int a2] [k8_0 cI cB hM M, k8_13 cI cB hM M, k8_14 cI cB hM M, k8_15 cI cB hM M, k8_16 cI cB hM M, k8_31 cI cB hM M] r0 [k8_0 cI cB hM M, k8_13 cI cB hM M, k8_14 cI cB hM M, k8_15 cI cB hM M, k8_16 cI cB hM M, k8_31 cI cB hM M] := by
  refine zofI (cc := cX8_inch) (maxL := 6) (ret := (some .int)) (by decide +kernel) rfl (Nat.le_of_ble_eq_true rfl) ?_
  intro p e s m below meth c A ls hx hb hml hr hown hts hlocks hK hP hD hS hA hl
  have hl : lv_has ls 6 [(0, .ref (hM 0)), (1, .int a1), (2, .int a2)] := hl
  have hown : s.vm.findClass RX8 = some m.cls := hown
  have hG : ∀ w ∈ wG, w ∈ ww_X8_inch := fun w h => List.mem_cons_of_mem _ h
  have hi8 : ∀ w ∈ wsX80, w ∈ ww_X8_inch := fun w h => List.mem_cons_of_mem _ (z_inX8 w h)
  have L32 : ∀ (M : zMm) (l1 : Int32) (l2 : Int32) (n : Nat) (l3 : Int32) (l4 : Int32) (l5 : Int32) (o3 : Int32) (o4 : Int32) (o5 : Int32), L_X8_inch_32 M l1 l2 n l3 l4 l5 = some (o3, o4, o5) → zAt p l e ({ frames := 2, cells := 0, slots := 0, locals := 44 } : Room) s m [.ref (hM 0), .int a1, .int a2].toArray below meth c (MQ below (zQi D cI cB r0 [k8_0 cI cB hM M, k8_13 cI cB hM M, k8_14 cI cB hM M, k8_15 cI cB hM M, k8_16 cI cB hM M, k8_31 cI cB hM M] A) [.ref (hM 0), .int a1, .int a2].toArray s 0 0 A) A D 6 [k8_0 cI cB hM M, k8_13 cI cB hM M, k8_14 cI cB hM M, k8_15 cI cB hM M, k8_16 cI cB hM M, k8_31 cI cB hM M] [(0, .ref (hM 0)), (1, .int l1), (2, .int l2), (3, .int o3), (4, .int o4), (5, .int o5)] 65 [] → zAt p l e ({ frames := 2, cells := 0, slots := 0, locals := 44 } : Room) s m [.ref (hM 0), .int a1, .int a2].toArray below meth c (MQ below (zQi D cI cB r0 [k8_0 cI cB hM M, k8_13 cI cB hM M, k8_14 cI cB hM M, k8_15 cI cB hM M, k8_16 cI cB hM M, k8_31 cI cB hM M] A) [.ref (hM 0), .int a1, .int a2].toArray s 0 0 A) A D 6 [k8_0 cI cB hM M, k8_13 cI cB hM M, k8_14 cI cB hM M, k8_15 cI cB hM M, k8_16 cI cB hM M, k8_31 cI cB hM M] [(0, .ref (hM 0)), (1, .int l1), (2, .int l2), (3, .int l3), (4, .int l4), (5, .int l5)] 32 [] := by
    intro M l1 l2 n
    induction n with
    | zero => intro l3 l4 l5 o3 o4 o5 hf; simp [L_X8_inch_32] at hf
    | succ n ih =>
      intro l3 l4 l5 o3 o4 o5 hf hk H locs ls hP hD hS hl
      rw [L_X8_inch_32] at hf
      refine lv_iload hx hb dX8_inch_32 (lv_at hl 5 rfl) ?_
      refine lv_bipush (v := 80) hx hb dX8_inch_34 (by decide) ?_
      refine lv_icmp_lt (tgt := 65) hx hb dX8_inch_36 (by decide) (fun c_5 => ?_) (fun c_5 => ?_)
      · replace hf := zit c_5 hf
        cases hf
        exact hk _ _ _ hP hD hS (lv_sub hl [0, 1, 2, 3, 4, 5] rfl)
      · replace hf := zif c_5 hf
        refine lv_aload_n hx hb dX8_inch_39 rfl (lv_at hl 0 rfl) ?_
        refine va_get (D := D) (ci := 8) (v := .ref (hM 13)) (C := RX8) (T := TX8) (N := 14) hx hb hts hi8 hown hK hP 0 rfl rfl 4 (Nat.le_of_ble_eq_true rfl) (hts _ (List.mem_cons_of_mem _ wd_347)) (fun _ h9 => h9) rfl dX8_inch_40 ?_
        refine lv_iload_n hx hb dX8_inch_43 rfl (lv_at hl 1 rfl) ?_
        refine lv_iload hx hb dX8_inch_44 (lv_at hl 5 rfl) ?_
        obtain ⟨r6, hq7, hf⟩ := zb1_some hf
        refine zcallVi (ws2 := [k8_0 cI cB hM M, k8_13 cI cB hM M, k8_14 cI cB hM M, k8_15 cI cB hM M, k8_16 cI cB hM M, k8_31 cI cB hM M]) (rest := []) ⟨hx, hb, hml, hown, hts⟩ (c_X6_agreeWith l D cI cB (fun j => hM (13 + j)) (fun j => M (15 + j)) l1 l5 r6 hq7) (cwV 2 hts (z_gV hG wd_567 wd_568 wd_569 wd_6 wd_570) rfl rfl rfl q_X6_agreeWith ⟨Nat.le_of_ble_eq_true rfl, Nat.le_of_ble_eq_true rfl⟩) hK hP hD hS hA 6 rfl rfl rfl [1, 2, 3, 4] [0, 5] rfl rfl rfl rfl rfl rfl rfl hl.1 (Nat.le_of_ble_eq_true rfl) dX8_inch_46 ⟨Nat.zero_le _, Nat.zero_le _⟩ rfl (fun H locs hP hD hS => ?_)
        obtain ⟨x9, x10, hq11, hf⟩ := zb2_some hf
        have J12 : zAt p l e ({ frames := 2, cells := 0, slots := 0, locals := 44 } : Room) s m [.ref (hM 0), .int a1, .int a2].toArray below meth c (MQ below (zQi D cI cB r0 [k8_0 cI cB hM M, k8_13 cI cB hM M, k8_14 cI cB hM M, k8_15 cI cB hM M, k8_16 cI cB hM M, k8_31 cI cB hM M] A) [.ref (hM 0), .int a1, .int a2].toArray s 0 0 A) A D 6 [k8_0 cI cB hM M, k8_13 cI cB hM M, k8_14 cI cB hM M, k8_15 cI cB hM M, k8_16 cI cB hM M, k8_31 cI cB hM M] [(0, .ref (hM 0)), (1, .int l1), (2, .int l2), (3, .int x9), (4, .int x10), (5, .int l5)] 59 [] := by
          intro H locs ls hP hD hS hl
          obtain ⟨x14, e_x14, hf⟩ := zv_some hf
          refine lv_iinc (v := x14) (lv' := [(5, .int x14), (0, .ref (hM 0)), (1, .int l1), (2, .int l2), (3, .int x9), (4, .int x10)]) hx hb dX8_inch_59 hl (k := 5) rfl (by rw [e_x14]; rfl) (by decide) rfl (fun ls hl => ?_)
          refine lv_goto (tgt := 32) hx hb dX8_inch_62 (by decide) ?_
          exact ih _ _ _ _ _ _ hf hk _ _ _ hP hD hS (lv_sub hl [1, 2, 3, 4, 5, 0] rfl)
        replace hf := hq11
        refine lv_if_eq (tgt := 59) hx hb dX8_inch_49 (by decide) (fun c_8 => ?_) (fun c_8 => ?_)
        · replace hf := zit c_8 hf
          cases hf
          exact J12 _ _ _ hP hD hS (lv_sub hl [0, 1, 2, 3, 4, 5] rfl)
        · replace hf := zif c_8 hf
          obtain ⟨x13, e_x13, hf⟩ := zv_some hf
          refine lv_iinc (v := x13) (lv' := [(3, .int x13), (0, .ref (hM 0)), (1, .int l1), (2, .int l2), (4, .int l4), (5, .int l5)]) hx hb dX8_inch_52 hl (k := 3) rfl (by rw [e_x13]; rfl) (by decide) rfl (fun ls hl => ?_)
          refine lv_iload hx hb dX8_inch_55 (lv_at hl 5 rfl) ?_
          refine lv_istore (lv' := [(4, .int l5), (3, .int x13), (0, .ref (hM 0)), (1, .int l1), (2, .int l2), (5, .int l5)]) hx hb dX8_inch_57 hl (by decide) rfl (fun ls hl => ?_)
          cases hf
          exact J12 _ _ _ hP hD hS (lv_sub hl [2, 3, 4, 1, 0, 5] rfl)
  unfold f_X8_inch at hf
  refine lv_aload_n hx hb dX8_inch_0 rfl (lv_at hl 0 rfl) ?_
  refine va_get (D := D) (ci := 8) (v := .ref (hM 31)) (C := RX8) (T := TX8) (N := 14) hx hb hts hi8 hown hK hP 0 rfl rfl 12 (Nat.le_of_ble_eq_true rfl) (hts _ (List.mem_cons_of_mem _ wd_355)) (fun _ h9 => h9) rfl dX8_inch_1 ?_
  refine lv_iload_n hx hb dX8_inch_4 rfl (lv_at hl 1 rfl) ?_
  obtain ⟨r1, hq2, hf⟩ := zb1_some hf
  refine zcallVi (ws2 := [k8_0 cI cB hM M, k8_13 cI cB hM M, k8_14 cI cB hM M, k8_15 cI cB hM M, k8_16 cI cB hM M, k8_31 cI cB hM M]) (rest := []) ⟨hx, hb, hml, hown, hts⟩ (c_X5_hasTailor l D cI cB (fun j => hM (31 + j)) (fun j => M (35 + j)) a1 r1 hq2) (cwV 1 hts (z_gV hG wd_551 wd_320 wd_321 wd_10 wd_322) rfl rfl rfl q_X5_hasTailor ⟨Nat.le_of_ble_eq_true rfl, Nat.le_of_ble_eq_true rfl⟩) hK hP hD hS hA 5 rfl rfl rfl [5] [0, 1, 2, 3, 4] rfl rfl rfl rfl rfl rfl rfl hl.1 (Nat.le_of_ble_eq_true rfl) dX8_inch_5 ⟨Nat.zero_le _, Nat.zero_le _⟩ rfl (fun H locs hP hD hS => ?_)
  refine lv_if_eq (tgt := 20) hx hb dX8_inch_8 (by decide) (fun c_3 => ?_) (fun c_3 => ?_)
  · replace hf := zit c_3 hf
    refine lv_iconst (v := (-1)) hx hb dX8_inch_20 (by decide) ?_
    cases hf
    exact zretI hx hb hr hlocks hK hP hD hS dX8_inch_21
  · replace hf := zif c_3 hf
    refine lv_iload_n hx hb dX8_inch_11 rfl (lv_at hl 2 rfl) ?_
    refine lv_if_eq (tgt := 22) hx hb dX8_inch_12 (by decide) (fun c_4 => ?_) (fun c_4 => ?_)
    · replace hf := zit c_4 hf
      refine lv_iconst (v := 0) hx hb dX8_inch_22 (by decide) ?_
      refine lv_istore_n (lv' := [(3, .int 0), (0, .ref (hM 0)), (1, .int a1), (2, .int a2)]) hx hb dX8_inch_23 rfl hl (by decide) rfl (fun ls hl => ?_)
      refine lv_bipush (v := (-4)) hx hb dX8_inch_24 (by decide) ?_
      refine lv_istore (lv' := [(4, .int (-4)), (3, .int 0), (0, .ref (hM 0)), (1, .int a1), (2, .int a2)]) hx hb dX8_inch_26 hl (by decide) rfl (fun ls hl => ?_)
      refine lv_bipush (v := 120) hx hb dX8_inch_28 (by decide) ?_
      refine lv_istore (lv' := [(5, .int 120), (4, .int (-4)), (3, .int 0), (0, .ref (hM 0)), (1, .int a1), (2, .int a2)]) hx hb dX8_inch_30 hl (by decide) rfl (fun ls hl => ?_)
      obtain ⟨x15, x16, x17, hq18, hf⟩ := zb3_some hf
      refine L32 _ _ _ _ _ _ _ _ _ _ hq18 ?_ _ _ _ hP hD hS (lv_sub hl [3, 4, 5, 2, 1, 0] rfl)
      intro H locs ls hP hD hS hl
      refine lv_iload_n hx hb dX8_inch_65 rfl (lv_at hl 2 rfl) ?_
      refine lv_if_ne (tgt := 73) hx hb dX8_inch_66 (by decide) (fun c_19 => ?_) (fun c_19 => ?_)
      · replace hf := zif c_19 hf
        refine lv_iload hx hb dX8_inch_73 (lv_at hl 4 rfl) ?_
        cases hf
        exact zretI hx hb hr hlocks hK hP hD hS dX8_inch_75
      · replace hf := zit c_19 hf
        refine lv_iload_n hx hb dX8_inch_69 rfl (lv_at hl 3 rfl) ?_
        refine lv_goto (tgt := 75) hx hb dX8_inch_70 (by decide) ?_
        cases hf
        exact zretI hx hb hr hlocks hK hP hD hS dX8_inch_75
    · replace hf := zif c_4 hf
      refine lv_iload_n hx hb dX8_inch_15 rfl (lv_at hl 2 rfl) ?_
      refine lv_iconst (v := 1) hx hb dX8_inch_16 (by decide) ?_
      refine lv_icmp_eq (tgt := 22) hx hb dX8_inch_17 (by decide) (fun c_20 => ?_) (fun c_20 => ?_)
      · replace hf := zit c_20 hf
        refine lv_iconst (v := 0) hx hb dX8_inch_22 (by decide) ?_
        refine lv_istore_n (lv' := [(3, .int 0), (0, .ref (hM 0)), (1, .int a1), (2, .int a2)]) hx hb dX8_inch_23 rfl hl (by decide) rfl (fun ls hl => ?_)
        refine lv_bipush (v := (-4)) hx hb dX8_inch_24 (by decide) ?_
        refine lv_istore (lv' := [(4, .int (-4)), (3, .int 0), (0, .ref (hM 0)), (1, .int a1), (2, .int a2)]) hx hb dX8_inch_26 hl (by decide) rfl (fun ls hl => ?_)
        refine lv_bipush (v := 120) hx hb dX8_inch_28 (by decide) ?_
        refine lv_istore (lv' := [(5, .int 120), (4, .int (-4)), (3, .int 0), (0, .ref (hM 0)), (1, .int a1), (2, .int a2)]) hx hb dX8_inch_30 hl (by decide) rfl (fun ls hl => ?_)
        obtain ⟨x21, x22, x23, hq24, hf⟩ := zb3_some hf
        refine L32 _ _ _ _ _ _ _ _ _ _ hq24 ?_ _ _ _ hP hD hS (lv_sub hl [3, 4, 5, 2, 1, 0] rfl)
        intro H locs ls hP hD hS hl
        refine lv_iload_n hx hb dX8_inch_65 rfl (lv_at hl 2 rfl) ?_
        refine lv_if_ne (tgt := 73) hx hb dX8_inch_66 (by decide) (fun c_25 => ?_) (fun c_25 => ?_)
        · replace hf := zif c_25 hf
          refine lv_iload hx hb dX8_inch_73 (lv_at hl 4 rfl) ?_
          cases hf
          exact zretI hx hb hr hlocks hK hP hD hS dX8_inch_75
        · replace hf := zit c_25 hf
          refine lv_iload_n hx hb dX8_inch_69 rfl (lv_at hl 3 rfl) ?_
          refine lv_goto (tgt := 75) hx hb dX8_inch_70 (by decide) ?_
          cases hf
          exact zretI hx hb hr hlocks hK hP hD hS dX8_inch_75
      · replace hf := zif c_20 hf
        refine lv_iconst (v := (-1)) hx hb dX8_inch_20 (by decide) ?_
        cases hf
        exact zretI hx hb hr hlocks hK hP hD hS dX8_inch_21
def L_X8_added_22 (M : zMm) (l1 : Int32) (l2 : Int32) : Nat → Int32 → Option (Int32)
  | 0, _ => none
  | n + 1, l3 => if (9 : Int32) < l3 then some ((-4) : Int32) else zb1 (f_X5_cutLength (fun j => M (35 + j)) l1 (-l3)) (fun (r8 : Int32) => if r8 = l2 then some ((100 : Int32) - l3) else zb1 (f_X5_cutLength (fun j => M (35 + j)) l1 l3) (fun (r11 : Int32) => if r11 = l2 then some ((100 : Int32) + l3) else zv (l3 + 1) (fun (x14 : Int32) => L_X8_added_22 M l1 l2 n x14)))
def f_X8_added (M : zMm) (a1 : Int32) (a2 : Int32) : Option (Int32) := zb1 (f_X5_hasPart (fun j => M (35 + j)) a1) (fun (r1 : Int32) => if r1 = 0 then some ((-1) : Int32) else zb1 (f_X8_isLength a2) (fun (r4 : Int32) => if r4 = 0 then some ((-1) : Int32) else L_X8_added_22 M a1 a2 100000 0))
abbrev ww_X8_added : List Cond := Cond.code yX8_added cX8_added 4 (some .int) :: wG
theorem q_X8_added : yX8_added.cls = RX8 ∧ yX8_added.cls ≠ "java/lang/invoke/MethodHandle" ∧ yX8_added.cls ≠ "java/lang/invoke/VarHandle" ∧ (parseMethodDescriptor yX8_added.desc).map (fun d => d.parameters.length) = some 2 := by decide +kernel
set_option maxHeartbeats 4000000 in
set_option maxRecDepth 100000 in
theorem c_X8_added (l : Launch) (D : va_G) (cI cB : ClassId) (hM : Nat → Nat) (M : zMm) (a1 : Int32) (a2 : Int32) (r0 : Int32) (hf : f_X8_added M a1 a2 = some r0) : zMi l yX8_added ww_X8_added ({ frames := 2, cells := 0, slots := 0, locals := 43 } : Room) D cI cB [.ref (hM 0), .int a1, .int a2] [k8_0 cI cB hM M, k8_31 cI cB hM M, k8_32 cI cB hM M, k8_33 cI cB hM M, k8_34 cI cB hM M] r0 [k8_0 cI cB hM M, k8_31 cI cB hM M, k8_32 cI cB hM M, k8_33 cI cB hM M, k8_34 cI cB hM M] := by
  refine zofI (cc := cX8_added) (maxL := 4) (ret := (some .int)) (by decide +kernel) rfl (Nat.le_of_ble_eq_true rfl) ?_
  intro p e s m below meth c A ls hx hb hml hr hown hts hlocks hK hP hD hS hA hl
  have hl : lv_has ls 4 [(0, .ref (hM 0)), (1, .int a1), (2, .int a2)] := hl
  have hown : s.vm.findClass RX8 = some m.cls := hown
  have hG : ∀ w ∈ wG, w ∈ ww_X8_added := fun w h => List.mem_cons_of_mem _ h
  have hi8 : ∀ w ∈ wsX80, w ∈ ww_X8_added := fun w h => List.mem_cons_of_mem _ (z_inX8 w h)
  have L22 : ∀ (M : zMm) (l1 : Int32) (l2 : Int32) (n : Nat) (l3 : Int32), L_X8_added_22 M l1 l2 n l3 = some r0 → zAt p l e ({ frames := 2, cells := 0, slots := 0, locals := 43 } : Room) s m [.ref (hM 0), .int a1, .int a2].toArray below meth c (MQ below (zQi D cI cB r0 [k8_0 cI cB hM M, k8_31 cI cB hM M, k8_32 cI cB hM M, k8_33 cI cB hM M, k8_34 cI cB hM M] A) [.ref (hM 0), .int a1, .int a2].toArray s 0 0 A) A D 4 [k8_0 cI cB hM M, k8_31 cI cB hM M, k8_32 cI cB hM M, k8_33 cI cB hM M, k8_34 cI cB hM M] [(0, .ref (hM 0)), (1, .int l1), (2, .int l2), (3, .int l3)] 22 [] := by
    intro M l1 l2 n
    induction n with
    | zero => intro l3 hf; simp [L_X8_added_22] at hf
    | succ n ih =>
      intro l3 hf H locs ls hP hD hS hl
      rw [L_X8_added_22] at hf
      refine lv_iload_n hx hb dX8_added_22 rfl (lv_at hl 3 rfl) ?_
      refine lv_bipush (v := 9) hx hb dX8_added_23 (by decide) ?_
      refine lv_icmp_gt (tgt := 71) hx hb dX8_added_25 (by decide) (fun c_7 => ?_) (fun c_7 => ?_)
      · replace hf := zit c_7 hf
        refine lv_bipush (v := (-4)) hx hb dX8_added_71 (by decide) ?_
        cases hf
        exact zretI hx hb hr hlocks hK hP hD hS dX8_added_73
      · replace hf := zif c_7 hf
        refine lv_aload_n hx hb dX8_added_28 rfl (lv_at hl 0 rfl) ?_
        refine va_get (D := D) (ci := 8) (v := .ref (hM 31)) (C := RX8) (T := TX8) (N := 14) hx hb hts hi8 hown hK hP 0 rfl rfl 12 (Nat.le_of_ble_eq_true rfl) (hts _ (List.mem_cons_of_mem _ wd_355)) (fun _ h9 => h9) rfl dX8_added_29 ?_
        refine lv_iload_n hx hb dX8_added_32 rfl (lv_at hl 1 rfl) ?_
        refine lv_iload_n hx hb dX8_added_33 rfl (lv_at hl 3 rfl) ?_
        refine lv_ineg hx hb dX8_added_34 ?_
        obtain ⟨r8, hq9, hf⟩ := zb1_some hf
        refine zcallVi (ws2 := [k8_0 cI cB hM M, k8_31 cI cB hM M, k8_32 cI cB hM M, k8_33 cI cB hM M, k8_34 cI cB hM M]) (rest := []) ⟨hx, hb, hml, hown, hts⟩ (c_X5_cutLength l D cI cB (fun j => hM (31 + j)) (fun j => M (35 + j)) l1 (-l3) r8 hq9) (cwV 2 hts (z_gV hG wd_431 wd_432 wd_433 wd_10 wd_434) rfl rfl rfl q_X5_cutLength ⟨Nat.le_of_ble_eq_true rfl, Nat.le_of_ble_eq_true rfl⟩) hK hP hD hS hA 5 rfl rfl rfl [1, 2, 3, 4] [0] rfl rfl rfl rfl rfl rfl rfl hl.1 (Nat.le_of_ble_eq_true rfl) dX8_added_35 ⟨Nat.zero_le _, Nat.zero_le _⟩ rfl (fun H locs hP hD hS => ?_)
        refine lv_iload_n hx hb dX8_added_38 rfl (lv_at hl 2 rfl) ?_
        refine lv_icmp_ne (tgt := 47) hx hb dX8_added_39 (by decide) (fun c_10 => ?_) (fun c_10 => ?_)
        · replace hf := zif c_10 hf
          refine lv_aload_n hx hb dX8_added_47 rfl (lv_at hl 0 rfl) ?_
          refine va_get (D := D) (ci := 8) (v := .ref (hM 31)) (C := RX8) (T := TX8) (N := 14) hx hb hts hi8 hown hK hP 0 rfl rfl 12 (Nat.le_of_ble_eq_true rfl) (hts _ (List.mem_cons_of_mem _ wd_355)) (fun _ h9 => h9) rfl dX8_added_48 ?_
          refine lv_iload_n hx hb dX8_added_51 rfl (lv_at hl 1 rfl) ?_
          refine lv_iload_n hx hb dX8_added_52 rfl (lv_at hl 3 rfl) ?_
          obtain ⟨r11, hq12, hf⟩ := zb1_some hf
          refine zcallVi (ws2 := [k8_0 cI cB hM M, k8_31 cI cB hM M, k8_32 cI cB hM M, k8_33 cI cB hM M, k8_34 cI cB hM M]) (rest := []) ⟨hx, hb, hml, hown, hts⟩ (c_X5_cutLength l D cI cB (fun j => hM (31 + j)) (fun j => M (35 + j)) l1 l3 r11 hq12) (cwV 2 hts (z_gV hG wd_431 wd_432 wd_433 wd_10 wd_434) rfl rfl rfl q_X5_cutLength ⟨Nat.le_of_ble_eq_true rfl, Nat.le_of_ble_eq_true rfl⟩) hK hP hD hS hA 5 rfl rfl rfl [1, 2, 3, 4] [0] rfl rfl rfl rfl rfl rfl rfl hl.1 (Nat.le_of_ble_eq_true rfl) dX8_added_53 ⟨Nat.zero_le _, Nat.zero_le _⟩ rfl (fun H locs hP hD hS => ?_)
          refine lv_iload_n hx hb dX8_added_56 rfl (lv_at hl 2 rfl) ?_
          refine lv_icmp_ne (tgt := 65) hx hb dX8_added_57 (by decide) (fun c_13 => ?_) (fun c_13 => ?_)
          · replace hf := zif c_13 hf
            obtain ⟨x14, e_x14, hf⟩ := zv_some hf
            refine lv_iinc (v := x14) (lv' := [(3, .int x14), (0, .ref (hM 0)), (1, .int l1), (2, .int l2)]) hx hb dX8_added_65 hl (k := 3) rfl (by rw [e_x14]; rfl) (by decide) rfl (fun ls hl => ?_)
            refine lv_goto (tgt := 22) hx hb dX8_added_68 (by decide) ?_
            exact ih _ hf _ _ _ hP hD hS (lv_sub hl [1, 2, 3, 0] rfl)
          · replace hf := zit c_13 hf
            refine lv_bipush (v := 100) hx hb dX8_added_60 (by decide) ?_
            refine lv_iload_n hx hb dX8_added_62 rfl (lv_at hl 3 rfl) ?_
            refine lv_iadd hx hb dX8_added_63 ?_
            cases hf
            exact zretI hx hb hr hlocks hK hP hD hS dX8_added_64
        · replace hf := zit c_10 hf
          refine lv_bipush (v := 100) hx hb dX8_added_42 (by decide) ?_
          refine lv_iload_n hx hb dX8_added_44 rfl (lv_at hl 3 rfl) ?_
          refine lv_isub hx hb dX8_added_45 ?_
          cases hf
          exact zretI hx hb hr hlocks hK hP hD hS dX8_added_46
  unfold f_X8_added at hf
  refine lv_aload_n hx hb dX8_added_0 rfl (lv_at hl 0 rfl) ?_
  refine va_get (D := D) (ci := 8) (v := .ref (hM 31)) (C := RX8) (T := TX8) (N := 14) hx hb hts hi8 hown hK hP 0 rfl rfl 12 (Nat.le_of_ble_eq_true rfl) (hts _ (List.mem_cons_of_mem _ wd_355)) (fun _ h9 => h9) rfl dX8_added_1 ?_
  refine lv_iload_n hx hb dX8_added_4 rfl (lv_at hl 1 rfl) ?_
  obtain ⟨r1, hq2, hf⟩ := zb1_some hf
  refine zcallVi (ws2 := [k8_0 cI cB hM M, k8_31 cI cB hM M, k8_32 cI cB hM M, k8_33 cI cB hM M, k8_34 cI cB hM M]) (rest := []) ⟨hx, hb, hml, hown, hts⟩ (c_X5_hasPart l D cI cB (fun j => hM (31 + j)) (fun j => M (35 + j)) a1 r1 hq2) (cwV 1 hts (z_gV hG wd_411 wd_328 wd_329 wd_10 wd_330) rfl rfl rfl q_X5_hasPart ⟨Nat.le_of_ble_eq_true rfl, Nat.le_of_ble_eq_true rfl⟩) hK hP hD hS hA 5 rfl rfl rfl [1] [0, 2, 3, 4] rfl rfl rfl rfl rfl rfl rfl hl.1 (Nat.le_of_ble_eq_true rfl) dX8_added_5 ⟨Nat.zero_le _, Nat.zero_le _⟩ rfl (fun H locs hP hD hS => ?_)
  refine lv_if_eq (tgt := 18) hx hb dX8_added_8 (by decide) (fun c_3 => ?_) (fun c_3 => ?_)
  · replace hf := zit c_3 hf
    refine lv_iconst (v := (-1)) hx hb dX8_added_18 (by decide) ?_
    cases hf
    exact zretI hx hb hr hlocks hK hP hD hS dX8_added_19
  · replace hf := zif c_3 hf
    refine lv_iload_n hx hb dX8_added_11 rfl (lv_at hl 2 rfl) ?_
    obtain ⟨r4, hq5, hf⟩ := zb1_some hf
    refine zcallSi (rest := []) ⟨hx, hb, hml, hown, hts⟩ (c_X8_isLength l D cI cB a2 r4 hq5) (z_cwS 1 hts (z_gS hG wd_552 wd_553 wd_1 wd_554) rfl rfl rfl q_X8_isLength ⟨Nat.le_of_ble_eq_true rfl, Nat.le_of_ble_eq_true rfl⟩) hK hP hD hS hA rfl hl.1 (Nat.le_of_ble_eq_true rfl) dX8_added_12 ⟨Nat.zero_le _, Nat.zero_le _⟩ rfl (fun H locs hP hD hS => ?_)
    refine lv_if_ne (tgt := 20) hx hb dX8_added_15 (by decide) (fun c_6 => ?_) (fun c_6 => ?_)
    · replace hf := zif c_6 hf
      refine lv_iconst (v := 0) hx hb dX8_added_20 (by decide) ?_
      refine lv_istore_n (lv' := [(3, .int 0), (0, .ref (hM 0)), (1, .int a1), (2, .int a2)]) hx hb dX8_added_21 rfl hl (by decide) rfl (fun ls hl => ?_)
      exact L22 _ _ _ _ _ hf _ _ _ hP hD hS (lv_sub hl [1, 2, 3, 0] rfl)
    · replace hf := zit c_6 hf
      refine lv_iconst (v := (-1)) hx hb dX8_added_18 (by decide) ?_
      cases hf
      exact zretI hx hb hr hlocks hK hP hD hS dX8_added_19
def L_X8_coat_49 (M : zMm) (l1 : Int32) (l2 : Int32) (l3 : Int32) : Nat → Int32 → Int32 → Int32 → Option (Int32 × Int32 × Int32)
  | 0, _, _, _ => none
  | n + 1, l4, l5, l6 => if l2 < l6 then some (l4, l5, l6) else zb1 (f_X5_sumOfSet (fun j => M (35 + j)) (fun j => M (31 + j)) l6) (fun (r8 : Int32) => zv (if 0 ≤ ((l3 - r8) - r8) then ((l3 - r8) - r8) else 0 - ((l3 - r8) - r8)) (fun (x10 : Int32) => zb2 (if l5 ≤ x10 then some (l4, l5) else some (l6, x10)) (fun (x12 : Int32) (x13 : Int32) => zv (l6 + 1) (fun (x16 : Int32) => L_X8_coat_49 M l1 l2 l3 n x12 x13 x16))))
def f_X8_coat (M : zMm) (a1 : Int32) : Option (Int32 × zMm) := if a1 = 0 then zb1 (f_X8_measureNow M) (fun (M_2 : zMm) => zv (((1 : Int32) <<< ((M_2 42 0) &&& 31)) - 1) (fun (x4 : Int32) => zb1 (f_X5_sumOfSet (fun j => M_2 (35 + j)) (fun j => M_2 (31 + j)) x4) (fun (r5 : Int32) => zb3 (L_X8_coat_49 M_2 a1 x4 r5 100000 0 r5 1) (fun (x17 : Int32) (x18 : Int32) (x19 : Int32) => if a1 = 0 then some (x17, M_2) else some (x18, M_2))))) else if a1 = 1 then zb1 (f_X8_measureNow M) (fun (M_23 : zMm) => zv (((1 : Int32) <<< ((M_23 42 0) &&& 31)) - 1) (fun (x25 : Int32) => zb1 (f_X5_sumOfSet (fun j => M_23 (35 + j)) (fun j => M_23 (31 + j)) x25) (fun (r26 : Int32) => zb3 (L_X8_coat_49 M_23 a1 x25 r26 100000 0 r26 1) (fun (x28 : Int32) (x29 : Int32) (x30 : Int32) => if a1 = 0 then some (x28, M_23) else some (x29, M_23))))) else some (((-1) : Int32), M)
abbrev ww_X8_coat : List Cond := Cond.code yX8_coat cX8_coat 9 (some .int) :: wG
theorem q_X8_coat : yX8_coat.cls = RX8 ∧ yX8_coat.cls ≠ "java/lang/invoke/MethodHandle" ∧ yX8_coat.cls ≠ "java/lang/invoke/VarHandle" ∧ (parseMethodDescriptor yX8_coat.desc).map (fun d => d.parameters.length) = some 1 := by decide +kernel
set_option maxHeartbeats 4000000 in
set_option maxRecDepth 100000 in
theorem c_X8_coat (l : Launch) (D : va_G) (cI cB : ClassId) (hM : Nat → Nat) (M : zMm) (a1 : Int32) (r0 : Int32) (M0 : zMm) (hf : f_X8_coat M a1 = some (r0, M0)) : zMi l yX8_coat ww_X8_coat ({ frames := 5, cells := 0, slots := 0, locals := 109 } : Room) D cI cB [.ref (hM 0), .int a1] (w8 cI cB hM M) r0 (w8 cI cB hM M0) := by
  refine zofI (cc := cX8_coat) (maxL := 9) (ret := (some .int)) (by decide +kernel) rfl (Nat.le_of_ble_eq_true rfl) ?_
  intro p e s m below meth c A ls hx hb hml hr hown hts hlocks hK hP hD hS hA hl
  have hl : lv_has ls 9 [(0, .ref (hM 0)), (1, .int a1)] := hl
  have hown : s.vm.findClass RX8 = some m.cls := hown
  have hG : ∀ w ∈ wG, w ∈ ww_X8_coat := fun w h => List.mem_cons_of_mem _ h
  have hi5 : ∀ w ∈ wsX50, w ∈ ww_X8_coat := fun w h => List.mem_cons_of_mem _ (z_inX5 w h)
  have hi8 : ∀ w ∈ wsX80, w ∈ ww_X8_coat := fun w h => List.mem_cons_of_mem _ (z_inX8 w h)
  have L49 : ∀ (M : zMm) (l1 : Int32) (l2 : Int32) (l3 : Int32) (n : Nat) (l4 : Int32) (l5 : Int32) (l6 : Int32) (o4 : Int32) (o5 : Int32) (o6 : Int32), L_X8_coat_49 M l1 l2 l3 n l4 l5 l6 = some (o4, o5, o6) → zAt p l e ({ frames := 5, cells := 0, slots := 0, locals := 109 } : Room) s m [.ref (hM 0), .int a1].toArray below meth c (MQ below (zQi D cI cB r0 (w8 cI cB hM M0) A) [.ref (hM 0), .int a1].toArray s 0 0 A) A D 9 (w8 cI cB hM M) [(0, .ref (hM 0)), (1, .int l1), (2, .int l2), (3, .int l3), (4, .int o4), (5, .int o5), (6, .int o6)] 103 [] → zAt p l e ({ frames := 5, cells := 0, slots := 0, locals := 109 } : Room) s m [.ref (hM 0), .int a1].toArray below meth c (MQ below (zQi D cI cB r0 (w8 cI cB hM M0) A) [.ref (hM 0), .int a1].toArray s 0 0 A) A D 9 (w8 cI cB hM M) [(0, .ref (hM 0)), (1, .int l1), (2, .int l2), (3, .int l3), (4, .int l4), (5, .int l5), (6, .int l6)] 49 [] := by
    intro M l1 l2 l3 n
    induction n with
    | zero => intro l4 l5 l6 o4 o5 o6 hf; simp [L_X8_coat_49] at hf
    | succ n ih =>
      intro l4 l5 l6 o4 o5 o6 hf hk H locs ls hP hD hS hl
      rw [L_X8_coat_49] at hf
      refine lv_iload hx hb dX8_coat_49 (lv_at hl 6 rfl) ?_
      refine lv_iload_n hx hb dX8_coat_51 rfl (lv_at hl 2 rfl) ?_
      refine lv_icmp_gt (tgt := 103) hx hb dX8_coat_52 (by decide) (fun c_7 => ?_) (fun c_7 => ?_)
      · replace hf := zit c_7 hf
        cases hf
        exact hk _ _ _ hP hD hS (lv_sub hl [0, 1, 2, 3, 4, 5, 6] rfl)
      · replace hf := zif c_7 hf
        refine lv_aload_n hx hb dX8_coat_55 rfl (lv_at hl 0 rfl) ?_
        refine va_get (D := D) (ci := 8) (v := .ref (hM 31)) (C := RX8) (T := TX8) (N := 14) hx hb hts hi8 hown hK hP 0 rfl rfl 12 (Nat.le_of_ble_eq_true rfl) (hts _ (List.mem_cons_of_mem _ wd_355)) (fun _ h9 => h9) rfl dX8_coat_56 ?_
        refine lv_aload_n hx hb dX8_coat_59 rfl (lv_at hl 0 rfl) ?_
        refine va_get (D := D) (ci := 8) (v := .ref (hM 27)) (C := RX8) (T := TX8) (N := 14) hx hb hts hi8 hown hK hP 0 rfl rfl 8 (Nat.le_of_ble_eq_true rfl) (hts _ (List.mem_cons_of_mem _ wd_351)) (fun _ h9 => h9) rfl dX8_coat_60 ?_
        refine lv_iload hx hb dX8_coat_63 (lv_at hl 6 rfl) ?_
        obtain ⟨r8, hq9, hf⟩ := zb1_some hf
        refine zcallVi (ws2 := (w8 cI cB hM M)) (rest := []) ⟨hx, hb, hml, hown, hts⟩ (c_X5_sumOfSet l D cI cB (fun j => hM (31 + j)) (fun j => hM (27 + j)) (fun j => M (35 + j)) (fun j => M (31 + j)) l6 r8 hq9) (cwV 2 hts (z_gV hG wd_530 wd_531 wd_532 wd_10 wd_533) rfl rfl rfl q_X5_sumOfSet ⟨Nat.le_of_ble_eq_true rfl, Nat.le_of_ble_eq_true rfl⟩) hK hP hD hS hA 5 rfl rfl rfl [31, 27] [0, 1, 2, 3, 4, 5, 6, 7, 8, 9, 10, 11, 12, 13, 14, 15, 16, 17, 18, 19, 20, 21, 22, 23, 24, 25, 26, 28, 29, 30, 32, 33, 34, 35, 36, 37, 38, 39, 40, 41, 42, 43, 44] rfl rfl rfl rfl rfl rfl rfl hl.1 (Nat.le_of_ble_eq_true rfl) dX8_coat_65 ⟨Nat.zero_le _, Nat.zero_le _⟩ rfl (fun H locs hP hD hS => ?_)
        refine lv_istore (lv' := [(7, .int r8), (0, .ref (hM 0)), (1, .int l1), (2, .int l2), (3, .int l3), (4, .int l4), (5, .int l5), (6, .int l6)]) hx hb dX8_coat_68 hl (by decide) rfl (fun ls hl => ?_)
        refine lv_iload_n hx hb dX8_coat_70 rfl (lv_at hl 4 rfl) ?_
        refine lv_iload hx hb dX8_coat_71 (lv_at hl 0 rfl) ?_
        refine lv_isub hx hb dX8_coat_73 ?_
        refine lv_iload hx hb dX8_coat_74 (lv_at hl 0 rfl) ?_
        refine lv_isub hx hb dX8_coat_76 ?_
        obtain ⟨x10, e_x10, hf⟩ := zv_some hf
        refine va_mabs hx hb (hml.trans hl.1.symm) hown (hts _ (List.mem_cons_of_mem _ wd_597)) (hts _ (List.mem_cons_of_mem _ wd_463)) (hts _ (List.mem_cons_of_mem _ wd_5)) (hts _ (List.mem_cons_of_mem _ wd_464)) (Nat.le_of_ble_eq_true rfl) (Nat.le_of_ble_eq_true rfl) (Nat.zero_le _) (Nat.zero_le _) dX8_coat_77 ?_
        refine zt e_x10 ?_
        refine lv_istore (lv' := [(8, .int x10), (7, .int r8), (0, .ref (hM 0)), (1, .int l1), (2, .int l2), (3, .int l3), (4, .int l4), (5, .int l5), (6, .int l6)]) hx hb dX8_coat_80 hl (by decide) rfl (fun ls hl => ?_)
        refine lv_iload hx hb dX8_coat_82 (lv_at hl 0 rfl) ?_
        refine lv_iload hx hb dX8_coat_84 (lv_at hl 7 rfl) ?_
        obtain ⟨x12, x13, hq14, hf⟩ := zb2_some hf
        have J15 : zAt p l e ({ frames := 5, cells := 0, slots := 0, locals := 109 } : Room) s m [.ref (hM 0), .int a1].toArray below meth c (MQ below (zQi D cI cB r0 (w8 cI cB hM M0) A) [.ref (hM 0), .int a1].toArray s 0 0 A) A D 9 (w8 cI cB hM M) [(0, .ref (hM 0)), (1, .int l1), (2, .int l2), (3, .int l3), (4, .int x12), (5, .int x13), (6, .int l6), (7, .int r8), (8, .int x10)] 97 [] := by
          intro H locs ls hP hD hS hl
          obtain ⟨x16, e_x16, hf⟩ := zv_some hf
          refine lv_iinc (v := x16) (lv' := [(6, .int x16), (0, .ref (hM 0)), (1, .int l1), (2, .int l2), (3, .int l3), (4, .int x12), (5, .int x13), (7, .int r8), (8, .int x10)]) hx hb dX8_coat_97 hl (k := 6) rfl (by rw [e_x16]; rfl) (by decide) rfl (fun ls hl => ?_)
          refine lv_goto (tgt := 49) hx hb dX8_coat_100 (by decide) ?_
          exact ih _ _ _ _ _ _ hf hk _ _ _ hP hD hS (lv_sub hl [1, 2, 3, 4, 5, 6, 0] rfl)
        replace hf := hq14
        refine lv_icmp_ge (tgt := 97) hx hb dX8_coat_86 (by decide) (fun c_11 => ?_) (fun c_11 => ?_)
        · replace hf := zit c_11 hf
          cases hf
          exact J15 _ _ _ hP hD hS (lv_sub hl [2, 3, 4, 5, 6, 7, 8, 1, 0] rfl)
        · replace hf := zif c_11 hf
          refine lv_iload hx hb dX8_coat_89 (lv_at hl 8 rfl) ?_
          refine lv_istore (lv' := [(4, .int l6), (8, .int x10), (7, .int r8), (0, .ref (hM 0)), (1, .int l1), (2, .int l2), (3, .int l3), (5, .int l5), (6, .int l6)]) hx hb dX8_coat_91 hl (by decide) rfl (fun ls hl => ?_)
          refine lv_iload hx hb dX8_coat_93 (lv_at hl 1 rfl) ?_
          refine lv_istore (lv' := [(5, .int x10), (4, .int l6), (8, .int x10), (7, .int r8), (0, .ref (hM 0)), (1, .int l1), (2, .int l2), (3, .int l3), (6, .int l6)]) hx hb dX8_coat_95 hl (by decide) rfl (fun ls hl => ?_)
          cases hf
          exact J15 _ _ _ hP hD hS (lv_sub hl [4, 5, 6, 7, 1, 0, 8, 3, 2] rfl)
  unfold f_X8_coat at hf
  refine lv_iload_n hx hb dX8_coat_0 rfl (lv_at hl 1 rfl) ?_
  refine lv_if_eq (tgt := 11) hx hb dX8_coat_1 (by decide) (fun c_1 => ?_) (fun c_1 => ?_)
  · replace hf := zit c_1 hf
    refine lv_aload_n hx hb dX8_coat_11 rfl (lv_at hl 0 rfl) ?_
    obtain ⟨M_2, hq3, hf⟩ := zb1_some hf
    refine zcallVv (ws2 := (w8 cI cB hM M_2)) (rest := []) ⟨hx, hb, hml, hown, hts⟩ (c_X8_measureNow l D cI cB hM M M_2 hq3) (cwV 0 hts (z_gV hG wd_450 wd_452 wd_s11 wd_1 wd_453) rfl rfl rfl q_X8_measureNow ⟨Nat.le_of_ble_eq_true rfl, Nat.le_of_ble_eq_true rfl⟩) hK hP hD hS hA 8 rfl rfl rfl [0, 1, 2, 3, 4, 5, 6, 7, 8, 9, 10, 11, 12, 13, 14, 15, 16, 17, 18, 19, 20, 21, 22, 23, 24, 25, 26, 27, 28, 29, 30, 31, 32, 33, 34, 35, 36, 37, 38, 39, 40, 41, 42, 43, 44] [] rfl rfl rfl rfl rfl rfl rfl hl.1 (Nat.le_of_ble_eq_true rfl) dX8_coat_12 ⟨Nat.zero_le _, Nat.zero_le _⟩ rfl (fun H locs hP hD hS => ?_)
    refine lv_iconst (v := 1) hx hb dX8_coat_15 (by decide) ?_
    refine lv_aload_n hx hb dX8_coat_16 rfl (lv_at hl 0 rfl) ?_
    refine va_get (D := D) (ci := 8) (v := .ref (hM 31)) (C := RX8) (T := TX8) (N := 14) hx hb hts hi8 hown hK hP 0 rfl rfl 12 (Nat.le_of_ble_eq_true rfl) (hts _ (List.mem_cons_of_mem _ wd_355)) (fun _ h9 => h9) rfl dX8_coat_17 ?_
    refine va_get (D := D) (ci := 5) (v := .int (M_2 42 0)) (C := RX5) (T := TX5) (N := 12) hx hb hts hi5 hown hK hP 31 rfl rfl 7 (Nat.le_of_ble_eq_true rfl) (hts _ (List.mem_cons_of_mem _ wd_196)) (fun _ h9 => h9) rfl dX8_coat_20 ?_
    refine lv_ishl hx hb dX8_coat_23 ?_
    refine lv_iconst (v := 1) hx hb dX8_coat_24 (by decide) ?_
    refine lv_isub hx hb dX8_coat_25 ?_
    obtain ⟨x4, e_x4, hf⟩ := zv_some hf
    refine zt e_x4 ?_
    refine lv_istore_n (lv' := [(2, .int x4), (0, .ref (hM 0)), (1, .int a1)]) hx hb dX8_coat_26 rfl hl (by decide) rfl (fun ls hl => ?_)
    refine lv_aload_n hx hb dX8_coat_27 rfl (lv_at hl 1 rfl) ?_
    refine va_get (D := D) (ci := 8) (v := .ref (hM 31)) (C := RX8) (T := TX8) (N := 14) hx hb hts hi8 hown hK hP 0 rfl rfl 12 (Nat.le_of_ble_eq_true rfl) (hts _ (List.mem_cons_of_mem _ wd_355)) (fun _ h9 => h9) rfl dX8_coat_28 ?_
    refine lv_aload_n hx hb dX8_coat_31 rfl (lv_at hl 1 rfl) ?_
    refine va_get (D := D) (ci := 8) (v := .ref (hM 27)) (C := RX8) (T := TX8) (N := 14) hx hb hts hi8 hown hK hP 0 rfl rfl 8 (Nat.le_of_ble_eq_true rfl) (hts _ (List.mem_cons_of_mem _ wd_351)) (fun _ h9 => h9) rfl dX8_coat_32 ?_
    refine lv_iload_n hx hb dX8_coat_35 rfl (lv_at hl 0 rfl) ?_
    obtain ⟨r5, hq6, hf⟩ := zb1_some hf
    refine zcallVi (ws2 := (w8 cI cB hM M_2)) (rest := []) ⟨hx, hb, hml, hown, hts⟩ (c_X5_sumOfSet l D cI cB (fun j => hM (31 + j)) (fun j => hM (27 + j)) (fun j => M_2 (35 + j)) (fun j => M_2 (31 + j)) x4 r5 hq6) (cwV 2 hts (z_gV hG wd_530 wd_531 wd_532 wd_10 wd_533) rfl rfl rfl q_X5_sumOfSet ⟨Nat.le_of_ble_eq_true rfl, Nat.le_of_ble_eq_true rfl⟩) hK hP hD hS hA 5 rfl rfl rfl [31, 27] [0, 1, 2, 3, 4, 5, 6, 7, 8, 9, 10, 11, 12, 13, 14, 15, 16, 17, 18, 19, 20, 21, 22, 23, 24, 25, 26, 28, 29, 30, 32, 33, 34, 35, 36, 37, 38, 39, 40, 41, 42, 43, 44] rfl rfl rfl rfl rfl rfl rfl hl.1 (Nat.le_of_ble_eq_true rfl) dX8_coat_36 ⟨Nat.zero_le _, Nat.zero_le _⟩ rfl (fun H locs hP hD hS => ?_)
    refine lv_istore_n (lv' := [(3, .int r5), (2, .int x4), (0, .ref (hM 0)), (1, .int a1)]) hx hb dX8_coat_39 rfl hl (by decide) rfl (fun ls hl => ?_)
    refine lv_iconst (v := 0) hx hb dX8_coat_40 (by decide) ?_
    refine lv_istore (lv' := [(4, .int 0), (3, .int r5), (2, .int x4), (0, .ref (hM 0)), (1, .int a1)]) hx hb dX8_coat_41 hl (by decide) rfl (fun ls hl => ?_)
    refine lv_iload_n hx hb dX8_coat_43 rfl (lv_at hl 1 rfl) ?_
    refine lv_istore (lv' := [(5, .int r5), (4, .int 0), (3, .int r5), (2, .int x4), (0, .ref (hM 0)), (1, .int a1)]) hx hb dX8_coat_44 hl (by decide) rfl (fun ls hl => ?_)
    refine lv_iconst (v := 1) hx hb dX8_coat_46 (by decide) ?_
    refine lv_istore (lv' := [(6, .int 1), (5, .int r5), (4, .int 0), (3, .int r5), (2, .int x4), (0, .ref (hM 0)), (1, .int a1)]) hx hb dX8_coat_47 hl (by decide) rfl (fun ls hl => ?_)
    obtain ⟨x17, x18, x19, hq20, hf⟩ := zb3_some hf
    refine L49 _ _ _ _ _ _ _ _ _ _ _ hq20 ?_ _ _ _ hP hD hS (lv_sub hl [5, 6, 4, 3, 2, 1, 0] rfl)
    intro H locs ls hP hD hS hl
    refine lv_iload_n hx hb dX8_coat_103 rfl (lv_at hl 1 rfl) ?_
    refine lv_if_ne (tgt := 112) hx hb dX8_coat_104 (by decide) (fun c_21 => ?_) (fun c_21 => ?_)
    · replace hf := zif c_21 hf
      refine lv_iload hx hb dX8_coat_112 (lv_at hl 5 rfl) ?_
      cases hf
      exact zretI hx hb hr hlocks hK hP hD hS dX8_coat_114
    · replace hf := zit c_21 hf
      refine lv_iload hx hb dX8_coat_107 (lv_at hl 4 rfl) ?_
      refine lv_goto (tgt := 114) hx hb dX8_coat_109 (by decide) ?_
      cases hf
      exact zretI hx hb hr hlocks hK hP hD hS dX8_coat_114
  · replace hf := zif c_1 hf
    refine lv_iload_n hx hb dX8_coat_4 rfl (lv_at hl 1 rfl) ?_
    refine lv_iconst (v := 1) hx hb dX8_coat_5 (by decide) ?_
    refine lv_icmp_eq (tgt := 11) hx hb dX8_coat_6 (by decide) (fun c_22 => ?_) (fun c_22 => ?_)
    · replace hf := zit c_22 hf
      refine lv_aload_n hx hb dX8_coat_11 rfl (lv_at hl 0 rfl) ?_
      obtain ⟨M_23, hq24, hf⟩ := zb1_some hf
      refine zcallVv (ws2 := (w8 cI cB hM M_23)) (rest := []) ⟨hx, hb, hml, hown, hts⟩ (c_X8_measureNow l D cI cB hM M M_23 hq24) (cwV 0 hts (z_gV hG wd_450 wd_452 wd_s11 wd_1 wd_453) rfl rfl rfl q_X8_measureNow ⟨Nat.le_of_ble_eq_true rfl, Nat.le_of_ble_eq_true rfl⟩) hK hP hD hS hA 8 rfl rfl rfl [0, 1, 2, 3, 4, 5, 6, 7, 8, 9, 10, 11, 12, 13, 14, 15, 16, 17, 18, 19, 20, 21, 22, 23, 24, 25, 26, 27, 28, 29, 30, 31, 32, 33, 34, 35, 36, 37, 38, 39, 40, 41, 42, 43, 44] [] rfl rfl rfl rfl rfl rfl rfl hl.1 (Nat.le_of_ble_eq_true rfl) dX8_coat_12 ⟨Nat.zero_le _, Nat.zero_le _⟩ rfl (fun H locs hP hD hS => ?_)
      refine lv_iconst (v := 1) hx hb dX8_coat_15 (by decide) ?_
      refine lv_aload_n hx hb dX8_coat_16 rfl (lv_at hl 0 rfl) ?_
      refine va_get (D := D) (ci := 8) (v := .ref (hM 31)) (C := RX8) (T := TX8) (N := 14) hx hb hts hi8 hown hK hP 0 rfl rfl 12 (Nat.le_of_ble_eq_true rfl) (hts _ (List.mem_cons_of_mem _ wd_355)) (fun _ h9 => h9) rfl dX8_coat_17 ?_
      refine va_get (D := D) (ci := 5) (v := .int (M_23 42 0)) (C := RX5) (T := TX5) (N := 12) hx hb hts hi5 hown hK hP 31 rfl rfl 7 (Nat.le_of_ble_eq_true rfl) (hts _ (List.mem_cons_of_mem _ wd_196)) (fun _ h9 => h9) rfl dX8_coat_20 ?_
      refine lv_ishl hx hb dX8_coat_23 ?_
      refine lv_iconst (v := 1) hx hb dX8_coat_24 (by decide) ?_
      refine lv_isub hx hb dX8_coat_25 ?_
      obtain ⟨x25, e_x25, hf⟩ := zv_some hf
      refine zt e_x25 ?_
      refine lv_istore_n (lv' := [(2, .int x25), (0, .ref (hM 0)), (1, .int a1)]) hx hb dX8_coat_26 rfl hl (by decide) rfl (fun ls hl => ?_)
      refine lv_aload_n hx hb dX8_coat_27 rfl (lv_at hl 1 rfl) ?_
      refine va_get (D := D) (ci := 8) (v := .ref (hM 31)) (C := RX8) (T := TX8) (N := 14) hx hb hts hi8 hown hK hP 0 rfl rfl 12 (Nat.le_of_ble_eq_true rfl) (hts _ (List.mem_cons_of_mem _ wd_355)) (fun _ h9 => h9) rfl dX8_coat_28 ?_
      refine lv_aload_n hx hb dX8_coat_31 rfl (lv_at hl 1 rfl) ?_
      refine va_get (D := D) (ci := 8) (v := .ref (hM 27)) (C := RX8) (T := TX8) (N := 14) hx hb hts hi8 hown hK hP 0 rfl rfl 8 (Nat.le_of_ble_eq_true rfl) (hts _ (List.mem_cons_of_mem _ wd_351)) (fun _ h9 => h9) rfl dX8_coat_32 ?_
      refine lv_iload_n hx hb dX8_coat_35 rfl (lv_at hl 0 rfl) ?_
      obtain ⟨r26, hq27, hf⟩ := zb1_some hf
      refine zcallVi (ws2 := (w8 cI cB hM M_23)) (rest := []) ⟨hx, hb, hml, hown, hts⟩ (c_X5_sumOfSet l D cI cB (fun j => hM (31 + j)) (fun j => hM (27 + j)) (fun j => M_23 (35 + j)) (fun j => M_23 (31 + j)) x25 r26 hq27) (cwV 2 hts (z_gV hG wd_530 wd_531 wd_532 wd_10 wd_533) rfl rfl rfl q_X5_sumOfSet ⟨Nat.le_of_ble_eq_true rfl, Nat.le_of_ble_eq_true rfl⟩) hK hP hD hS hA 5 rfl rfl rfl [31, 27] [0, 1, 2, 3, 4, 5, 6, 7, 8, 9, 10, 11, 12, 13, 14, 15, 16, 17, 18, 19, 20, 21, 22, 23, 24, 25, 26, 28, 29, 30, 32, 33, 34, 35, 36, 37, 38, 39, 40, 41, 42, 43, 44] rfl rfl rfl rfl rfl rfl rfl hl.1 (Nat.le_of_ble_eq_true rfl) dX8_coat_36 ⟨Nat.zero_le _, Nat.zero_le _⟩ rfl (fun H locs hP hD hS => ?_)
      refine lv_istore_n (lv' := [(3, .int r26), (2, .int x25), (0, .ref (hM 0)), (1, .int a1)]) hx hb dX8_coat_39 rfl hl (by decide) rfl (fun ls hl => ?_)
      refine lv_iconst (v := 0) hx hb dX8_coat_40 (by decide) ?_
      refine lv_istore (lv' := [(4, .int 0), (3, .int r26), (2, .int x25), (0, .ref (hM 0)), (1, .int a1)]) hx hb dX8_coat_41 hl (by decide) rfl (fun ls hl => ?_)
      refine lv_iload_n hx hb dX8_coat_43 rfl (lv_at hl 1 rfl) ?_
      refine lv_istore (lv' := [(5, .int r26), (4, .int 0), (3, .int r26), (2, .int x25), (0, .ref (hM 0)), (1, .int a1)]) hx hb dX8_coat_44 hl (by decide) rfl (fun ls hl => ?_)
      refine lv_iconst (v := 1) hx hb dX8_coat_46 (by decide) ?_
      refine lv_istore (lv' := [(6, .int 1), (5, .int r26), (4, .int 0), (3, .int r26), (2, .int x25), (0, .ref (hM 0)), (1, .int a1)]) hx hb dX8_coat_47 hl (by decide) rfl (fun ls hl => ?_)
      obtain ⟨x28, x29, x30, hq31, hf⟩ := zb3_some hf
      refine L49 _ _ _ _ _ _ _ _ _ _ _ hq31 ?_ _ _ _ hP hD hS (lv_sub hl [5, 6, 4, 3, 2, 1, 0] rfl)
      intro H locs ls hP hD hS hl
      refine lv_iload_n hx hb dX8_coat_103 rfl (lv_at hl 1 rfl) ?_
      refine lv_if_ne (tgt := 112) hx hb dX8_coat_104 (by decide) (fun c_32 => ?_) (fun c_32 => ?_)
      · replace hf := zif c_32 hf
        refine lv_iload hx hb dX8_coat_112 (lv_at hl 5 rfl) ?_
        cases hf
        exact zretI hx hb hr hlocks hK hP hD hS dX8_coat_114
      · replace hf := zit c_32 hf
        refine lv_iload hx hb dX8_coat_107 (lv_at hl 4 rfl) ?_
        refine lv_goto (tgt := 114) hx hb dX8_coat_109 (by decide) ?_
        cases hf
        exact zretI hx hb hr hlocks hK hP hD hS dX8_coat_114
    · replace hf := zif c_22 hf
      refine lv_iconst (v := (-1)) hx hb dX8_coat_9 (by decide) ?_
      cases hf
      exact zretI hx hb hr hlocks hK hP hD hS dX8_coat_10
def f_X8_pin (M : zMm) (a1 : Int32) : Option (Int32 × zMm) := zb1 (f_X5_hasSeam (fun j => M (35 + j)) a1) (fun (r1 : Int32) => if r1 = 0 then some (((-1) : Int32), M) else zl 10 (M 39) a1 (fun v4 => zl 7 (M 36) v4 (fun v5 => zl 10 (M 40) a1 (fun v6 => zl 7 (M 36) v6 (fun v7 => if v5 = v7 then some (((-2) : Int32), M) else if (M 21 0) < 12 then zb1 (f_X4_countIn (fun j => M (19 + j)) a1) (fun (r10 : Int32) => zb1 (if (zrI r10 (2 : Int32)) = 0 then some v5 else some v7) (fun (y13 : Int32) => zb1 (f_X4_add (fun j => M (19 + j)) a1 y13) (fun (M_16 : zMm) => zv (zp M 19 3 M_16) (fun (M_18 : zMm) => some (M_18 21 0, M_18))))) else some (((-3) : Int32), M))))))
abbrev ww_X8_pin : List Cond := Cond.code yX8_pin cX8_pin 4 (some .int) :: wG
theorem q_X8_pin : yX8_pin.cls = RX8 ∧ yX8_pin.cls ≠ "java/lang/invoke/MethodHandle" ∧ yX8_pin.cls ≠ "java/lang/invoke/VarHandle" ∧ (parseMethodDescriptor yX8_pin.desc).map (fun d => d.parameters.length) = some 1 := by decide +kernel
set_option maxHeartbeats 4000000 in
set_option maxRecDepth 100000 in
theorem c_X8_pin (l : Launch) (D : va_G) (cI cB : ClassId) (hM : Nat → Nat) (M : zMm) (a1 : Int32) (r0 : Int32) (M0 : zMm) (hf : f_X8_pin M a1 = some (r0, M0)) : zMi l yX8_pin ww_X8_pin ({ frames := 1, cells := 0, slots := 0, locals := 23 } : Room) D cI cB [.ref (hM 0), .int a1] (w8 cI cB hM M) r0 (w8 cI cB hM M0) := by
  refine zofI (cc := cX8_pin) (maxL := 4) (ret := (some .int)) (by decide +kernel) rfl (Nat.le_of_ble_eq_true rfl) ?_
  intro p e s m below meth c A ls hx hb hml hr hown hts hlocks hK hP hD hS hA hl
  have hl : lv_has ls 4 [(0, .ref (hM 0)), (1, .int a1)] := hl
  have hown : s.vm.findClass RX8 = some m.cls := hown
  have hG : ∀ w ∈ wG, w ∈ ww_X8_pin := fun w h => List.mem_cons_of_mem _ h
  have hi4 : ∀ w ∈ wsX40, w ∈ ww_X8_pin := fun w h => List.mem_cons_of_mem _ (z_inX4 w h)
  have hi5 : ∀ w ∈ wsX50, w ∈ ww_X8_pin := fun w h => List.mem_cons_of_mem _ (z_inX5 w h)
  have hi8 : ∀ w ∈ wsX80, w ∈ ww_X8_pin := fun w h => List.mem_cons_of_mem _ (z_inX8 w h)
  unfold f_X8_pin at hf
  refine lv_aload_n hx hb dX8_pin_0 rfl (lv_at hl 0 rfl) ?_
  refine va_get (D := D) (ci := 8) (v := .ref (hM 31)) (C := RX8) (T := TX8) (N := 14) hx hb hts hi8 hown hK hP 0 rfl rfl 12 (Nat.le_of_ble_eq_true rfl) (hts _ (List.mem_cons_of_mem _ wd_355)) (fun _ h9 => h9) rfl dX8_pin_1 ?_
  refine lv_iload_n hx hb dX8_pin_4 rfl (lv_at hl 1 rfl) ?_
  obtain ⟨r1, hq2, hf⟩ := zb1_some hf
  refine zcallVi (ws2 := (w8 cI cB hM M)) (rest := []) ⟨hx, hb, hml, hown, hts⟩ (c_X5_hasSeam l D cI cB (fun j => hM (31 + j)) (fun j => M (35 + j)) a1 r1 hq2) (cwV 1 hts (z_gV hG wd_446 wd_447 wd_448 wd_10 wd_449) rfl rfl rfl q_X5_hasSeam ⟨Nat.le_of_ble_eq_true rfl, Nat.le_of_ble_eq_true rfl⟩) hK hP hD hS hA 5 rfl rfl rfl [31] [0, 1, 2, 3, 4, 5, 6, 7, 8, 9, 10, 11, 12, 13, 14, 15, 16, 17, 18, 19, 20, 21, 22, 23, 24, 25, 26, 27, 28, 29, 30, 32, 33, 34, 35, 36, 37, 38, 39, 40, 41, 42, 43, 44] rfl rfl rfl rfl rfl rfl rfl hl.1 (Nat.le_of_ble_eq_true rfl) dX8_pin_5 ⟨Nat.zero_le _, Nat.zero_le _⟩ rfl (fun H locs hP hD hS => ?_)
  refine lv_if_ne (tgt := 13) hx hb dX8_pin_8 (by decide) (fun c_3 => ?_) (fun c_3 => ?_)
  · replace hf := zif c_3 hf
    refine lv_aload_n hx hb dX8_pin_13 rfl (lv_at hl 0 rfl) ?_
    refine va_get (D := D) (ci := 8) (v := .ref (hM 31)) (C := RX8) (T := TX8) (N := 14) hx hb hts hi8 hown hK hP 0 rfl rfl 12 (Nat.le_of_ble_eq_true rfl) (hts _ (List.mem_cons_of_mem _ wd_355)) (fun _ h9 => h9) rfl dX8_pin_14 ?_
    refine va_get (D := D) (ci := 5) (v := .ref (hM 33)) (C := RX5) (T := TX5) (N := 12) hx hb hts hi5 hown hK hP 31 rfl rfl 1 (Nat.le_of_ble_eq_true rfl) (hts _ (List.mem_cons_of_mem _ wd_180)) (fun _ h9 => h9) rfl dX8_pin_17 ?_
    refine lv_aload_n hx hb dX8_pin_20 rfl (lv_at hl 0 rfl) ?_
    refine va_get (D := D) (ci := 8) (v := .ref (hM 31)) (C := RX8) (T := TX8) (N := 14) hx hb hts hi8 hown hK hP 0 rfl rfl 12 (Nat.le_of_ble_eq_true rfl) (hts _ (List.mem_cons_of_mem _ wd_355)) (fun _ h9 => h9) rfl dX8_pin_21 ?_
    refine va_get (D := D) (ci := 5) (v := .ref (hM 36)) (C := RX5) (T := TX5) (N := 12) hx hb hts hi5 hown hK hP 31 rfl rfl 4 (Nat.le_of_ble_eq_true rfl) (hts _ (List.mem_cons_of_mem _ wd_187)) (fun _ h9 => h9) rfl dX8_pin_24 ?_
    refine lv_iload_n hx hb dX8_pin_27 rfl (lv_at hl 1 rfl) ?_
    obtain ⟨i_v4, v4, e_v4, hf⟩ := zl_some hf
    refine va_iald (n := 10) (f := M 39) (cA := cI) hx hb hK hP 36 0 rfl rfl i_v4 dX8_pin_28 ?_
    refine zt e_v4 ?_
    obtain ⟨i_v5, v5, e_v5, hf⟩ := zl_some hf
    refine va_iald (n := 7) (f := M 36) (cA := cI) hx hb hK hP 33 0 rfl rfl i_v5 dX8_pin_29 ?_
    refine zt e_v5 ?_
    refine lv_istore_n (lv' := [(2, .int v5), (0, .ref (hM 0)), (1, .int a1)]) hx hb dX8_pin_30 rfl hl (by decide) rfl (fun ls hl => ?_)
    refine lv_aload_n hx hb dX8_pin_31 rfl (lv_at hl 1 rfl) ?_
    refine va_get (D := D) (ci := 8) (v := .ref (hM 31)) (C := RX8) (T := TX8) (N := 14) hx hb hts hi8 hown hK hP 0 rfl rfl 12 (Nat.le_of_ble_eq_true rfl) (hts _ (List.mem_cons_of_mem _ wd_355)) (fun _ h9 => h9) rfl dX8_pin_32 ?_
    refine va_get (D := D) (ci := 5) (v := .ref (hM 33)) (C := RX5) (T := TX5) (N := 12) hx hb hts hi5 hown hK hP 31 rfl rfl 1 (Nat.le_of_ble_eq_true rfl) (hts _ (List.mem_cons_of_mem _ wd_180)) (fun _ h9 => h9) rfl dX8_pin_35 ?_
    refine lv_aload_n hx hb dX8_pin_38 rfl (lv_at hl 1 rfl) ?_
    refine va_get (D := D) (ci := 8) (v := .ref (hM 31)) (C := RX8) (T := TX8) (N := 14) hx hb hts hi8 hown hK hP 0 rfl rfl 12 (Nat.le_of_ble_eq_true rfl) (hts _ (List.mem_cons_of_mem _ wd_355)) (fun _ h9 => h9) rfl dX8_pin_39 ?_
    refine va_get (D := D) (ci := 5) (v := .ref (hM 37)) (C := RX5) (T := TX5) (N := 12) hx hb hts hi5 hown hK hP 31 rfl rfl 5 (Nat.le_of_ble_eq_true rfl) (hts _ (List.mem_cons_of_mem _ wd_190)) (fun _ h9 => h9) rfl dX8_pin_42 ?_
    refine lv_iload_n hx hb dX8_pin_45 rfl (lv_at hl 2 rfl) ?_
    obtain ⟨i_v6, v6, e_v6, hf⟩ := zl_some hf
    refine va_iald (n := 10) (f := M 40) (cA := cI) hx hb hK hP 37 0 rfl rfl i_v6 dX8_pin_46 ?_
    refine zt e_v6 ?_
    obtain ⟨i_v7, v7, e_v7, hf⟩ := zl_some hf
    refine va_iald (n := 7) (f := M 36) (cA := cI) hx hb hK hP 33 0 rfl rfl i_v7 dX8_pin_47 ?_
    refine zt e_v7 ?_
    refine lv_istore_n (lv' := [(3, .int v7), (2, .int v5), (0, .ref (hM 0)), (1, .int a1)]) hx hb dX8_pin_48 rfl hl (by decide) rfl (fun ls hl => ?_)
    refine lv_iload_n hx hb dX8_pin_49 rfl (lv_at hl 1 rfl) ?_
    refine lv_iload_n hx hb dX8_pin_50 rfl (lv_at hl 0 rfl) ?_
    refine lv_icmp_ne (tgt := 57) hx hb dX8_pin_51 (by decide) (fun c_8 => ?_) (fun c_8 => ?_)
    · replace hf := zif c_8 hf
      refine lv_aload_n hx hb dX8_pin_57 rfl (lv_at hl 2 rfl) ?_
      refine va_get (D := D) (ci := 8) (v := .ref (hM 17)) (C := RX8) (T := TX8) (N := 14) hx hb hts hi8 hown hK hP 0 rfl rfl 5 (Nat.le_of_ble_eq_true rfl) (hts _ (List.mem_cons_of_mem _ wd_348)) (fun _ h9 => h9) rfl dX8_pin_58 ?_
      refine va_get (D := D) (ci := 4) (v := .int (M 21 0)) (C := RX4) (T := TX4) (N := 3) hx hb hts hi4 hown hK hP 17 rfl rfl 2 (Nat.le_of_ble_eq_true rfl) (hts _ (List.mem_cons_of_mem _ wd_119)) (fun _ h9 => h9) rfl dX8_pin_61 ?_
      refine lv_bipush (v := 12) hx hb dX8_pin_64 (by decide) ?_
      refine lv_icmp_lt (tgt := 72) hx hb dX8_pin_66 (by decide) (fun c_9 => ?_) (fun c_9 => ?_)
      · replace hf := zit c_9 hf
        refine lv_aload_n hx hb dX8_pin_72 rfl (lv_at hl 2 rfl) ?_
        refine va_get (D := D) (ci := 8) (v := .ref (hM 17)) (C := RX8) (T := TX8) (N := 14) hx hb hts hi8 hown hK hP 0 rfl rfl 5 (Nat.le_of_ble_eq_true rfl) (hts _ (List.mem_cons_of_mem _ wd_348)) (fun _ h9 => h9) rfl dX8_pin_73 ?_
        refine lv_iload_n hx hb dX8_pin_76 rfl (lv_at hl 3 rfl) ?_
        refine lv_aload_n hx hb dX8_pin_77 rfl (lv_at hl 2 rfl) ?_
        refine va_get (D := D) (ci := 8) (v := .ref (hM 17)) (C := RX8) (T := TX8) (N := 14) hx hb hts hi8 hown hK hP 0 rfl rfl 5 (Nat.le_of_ble_eq_true rfl) (hts _ (List.mem_cons_of_mem _ wd_348)) (fun _ h9 => h9) rfl dX8_pin_78 ?_
        refine lv_iload_n hx hb dX8_pin_81 rfl (lv_at hl 3 rfl) ?_
        obtain ⟨r10, hq11, hf⟩ := zb1_some hf
        refine zcallVi (ws2 := (w8 cI cB hM M)) (rest := [.int a1, .ref (hM 17)]) ⟨hx, hb, hml, hown, hts⟩ (c_X4_countIn l D cI cB (fun j => hM (17 + j)) (fun j => M (19 + j)) a1 r10 hq11) (cwV 1 hts (z_gV hG wd_602 wd_603 wd_604 wd_7 wd_605) rfl rfl rfl q_X4_countIn ⟨Nat.le_of_ble_eq_true rfl, Nat.le_of_ble_eq_true rfl⟩) hK hP hD hS hA 4 rfl rfl rfl [17, 18] [0, 1, 2, 3, 4, 5, 6, 7, 8, 9, 10, 11, 12, 13, 14, 15, 16, 19, 20, 21, 22, 23, 24, 25, 26, 27, 28, 29, 30, 31, 32, 33, 34, 35, 36, 37, 38, 39, 40, 41, 42, 43, 44] rfl rfl rfl rfl rfl rfl rfl hl.1 (Nat.le_of_ble_eq_true rfl) dX8_pin_82 ⟨Nat.zero_le _, Nat.zero_le _⟩ rfl (fun H locs hP hD hS => ?_)
        refine lv_iconst (v := 2) hx hb dX8_pin_85 (by decide) ?_
        refine lv_irem hx hb dX8_pin_86 (by decide) ?_
        refine zt (y := zrI r10 (2 : Int32)) rfl ?_
        obtain ⟨y13, hq14, hf⟩ := zb1_some hf
        have J15 : zAt p l e ({ frames := 1, cells := 0, slots := 0, locals := 23 } : Room) s m [.ref (hM 0), .int a1].toArray below meth c (MQ below (zQi D cI cB r0 (w8 cI cB hM M0) A) [.ref (hM 0), .int a1].toArray s 0 0 A) A D 4 (w8 cI cB hM M) [(0, .ref (hM 0)), (1, .int a1), (2, .int v5), (3, .int v7)] 95 [.int y13, .int a1, .ref (hM 17)] := by
          intro H locs ls hP hD hS hl
          obtain ⟨M_16, hq17, hf⟩ := zb1_some hf
          refine zcallVv (ws2 := (w8 cI cB hM (zp M 19 3 M_16))) (rest := []) ⟨hx, hb, hml, hown, hts⟩ (c_X4_add l D cI cB (fun j => hM (17 + j)) (fun j => M (19 + j)) a1 y13 M_16 hq17) (cwV 2 hts (z_gV hG wd_606 wd_607 wd_608 wd_7 wd_609) rfl rfl rfl q_X4_add ⟨Nat.le_of_ble_eq_true rfl, Nat.le_of_ble_eq_true rfl⟩) hK hP hD hS hA 4 rfl rfl rfl [17, 18, 19] [0, 1, 2, 3, 4, 5, 6, 7, 8, 9, 10, 11, 12, 13, 14, 15, 16, 20, 21, 22, 23, 24, 25, 26, 27, 28, 29, 30, 31, 32, 33, 34, 35, 36, 37, 38, 39, 40, 41, 42, 43, 44] rfl rfl rfl (z_em ⟨rfl, rfl, rfl, rfl, rfl, rfl, rfl, rfl, rfl, rfl, rfl, rfl, rfl, rfl, rfl, rfl, rfl, rfl, rfl, rfl, rfl, rfl, rfl, rfl, rfl, rfl, rfl, rfl, rfl, rfl, rfl, rfl, rfl, rfl, rfl, rfl, rfl, rfl, rfl, rfl, rfl, rfl, trivial⟩) rfl rfl rfl hl.1 (Nat.le_of_ble_eq_true rfl) dX8_pin_95 ⟨Nat.zero_le _, Nat.zero_le _⟩ rfl (fun H locs hP hD hS => ?_)
          obtain ⟨M_18, e_M_18, hf⟩ := zv_some hf
          rw [← e_M_18] at hP hD
          refine lv_aload_n hx hb dX8_pin_98 rfl (lv_at hl 0 rfl) ?_
          refine va_get (D := D) (ci := 8) (v := .ref (hM 17)) (C := RX8) (T := TX8) (N := 14) hx hb hts hi8 hown hK hP 0 rfl rfl 5 (Nat.le_of_ble_eq_true rfl) (hts _ (List.mem_cons_of_mem _ wd_348)) (fun _ h9 => h9) rfl dX8_pin_99 ?_
          refine va_get (D := D) (ci := 4) (v := .int (M_18 21 0)) (C := RX4) (T := TX4) (N := 3) hx hb hts hi4 hown hK hP 17 rfl rfl 2 (Nat.le_of_ble_eq_true rfl) (hts _ (List.mem_cons_of_mem _ wd_119)) (fun _ h9 => h9) rfl dX8_pin_102 ?_
          cases hf
          exact zretI hx hb hr hlocks hK hP hD hS dX8_pin_105
        replace hf := hq14
        refine lv_if_ne (tgt := 94) hx hb dX8_pin_87 (by decide) (fun c_12 => ?_) (fun c_12 => ?_)
        · replace hf := zif c_12 hf
          refine lv_iload_n hx hb dX8_pin_94 rfl (lv_at hl 0 rfl) ?_
          cases hf
          exact J15 _ _ _ hP hD hS (lv_sub hl [2, 3, 1, 0] rfl)
        · replace hf := zit c_12 hf
          refine lv_iload_n hx hb dX8_pin_90 rfl (lv_at hl 1 rfl) ?_
          refine lv_goto (tgt := 95) hx hb dX8_pin_91 (by decide) ?_
          cases hf
          exact J15 _ _ _ hP hD hS (lv_sub hl [2, 3, 1, 0] rfl)
      · replace hf := zif c_9 hf
        refine lv_bipush (v := (-3)) hx hb dX8_pin_69 (by decide) ?_
        cases hf
        exact zretI hx hb hr hlocks hK hP hD hS dX8_pin_71
    · replace hf := zit c_8 hf
      refine lv_bipush (v := (-2)) hx hb dX8_pin_54 (by decide) ?_
      cases hf
      exact zretI hx hb hr hlocks hK hP hD hS dX8_pin_56
  · replace hf := zit c_3 hf
    refine lv_iconst (v := (-1)) hx hb dX8_pin_11 (by decide) ?_
    cases hf
    exact zretI hx hb hr hlocks hK hP hD hS dX8_pin_12
def f_X8_noPins (M : zMm) : Option (Int32 × zMm) := zv (M 21 0) (fun (x1 : Int32) => zv (zs M 21 (fun _ => 0)) (fun (M_2 : zMm) => some (x1, M_2)))
abbrev ww_X8_noPins : List Cond := Cond.code yX8_noPins cX8_noPins 2 (some .int) :: wG
theorem q_X8_noPins : yX8_noPins.cls = RX8 ∧ yX8_noPins.cls ≠ "java/lang/invoke/MethodHandle" ∧ yX8_noPins.cls ≠ "java/lang/invoke/VarHandle" ∧ (parseMethodDescriptor yX8_noPins.desc).map (fun d => d.parameters.length) = some 0 := by decide +kernel
set_option maxHeartbeats 4000000 in
set_option maxRecDepth 100000 in
theorem c_X8_noPins (l : Launch) (D : va_G) (cI cB : ClassId) (hM : Nat → Nat) (M : zMm) (r0 : Int32) (M0 : zMm) (hf : f_X8_noPins M = some (r0, M0)) : zMi l yX8_noPins ww_X8_noPins ({ frames := 0, cells := 0, slots := 0, locals := 0 } : Room) D cI cB [.ref (hM 0)] (w8 cI cB hM M) r0 (w8 cI cB hM M0) := by
  refine zofI (cc := cX8_noPins) (maxL := 2) (ret := (some .int)) (by decide +kernel) rfl (Nat.le_of_ble_eq_true rfl) ?_
  intro p e s m below meth c A ls hx hb hml hr hown hts hlocks hK hP hD hS hA hl
  have hl : lv_has ls 2 [(0, .ref (hM 0))] := hl
  have hown : s.vm.findClass RX8 = some m.cls := hown
  have hG : ∀ w ∈ wG, w ∈ ww_X8_noPins := fun w h => List.mem_cons_of_mem _ h
  have hi4 : ∀ w ∈ wsX40, w ∈ ww_X8_noPins := fun w h => List.mem_cons_of_mem _ (z_inX4 w h)
  have hi8 : ∀ w ∈ wsX80, w ∈ ww_X8_noPins := fun w h => List.mem_cons_of_mem _ (z_inX8 w h)
  unfold f_X8_noPins at hf
  refine lv_aload_n hx hb dX8_noPins_0 rfl (lv_at hl 0 rfl) ?_
  refine va_get (D := D) (ci := 8) (v := .ref (hM 17)) (C := RX8) (T := TX8) (N := 14) hx hb hts hi8 hown hK hP 0 rfl rfl 5 (Nat.le_of_ble_eq_true rfl) (hts _ (List.mem_cons_of_mem _ wd_348)) (fun _ h9 => h9) rfl dX8_noPins_1 ?_
  refine va_get (D := D) (ci := 4) (v := .int (M 21 0)) (C := RX4) (T := TX4) (N := 3) hx hb hts hi4 hown hK hP 17 rfl rfl 2 (Nat.le_of_ble_eq_true rfl) (hts _ (List.mem_cons_of_mem _ wd_119)) (fun _ h9 => h9) rfl dX8_noPins_4 ?_
  obtain ⟨x1, e_x1, hf⟩ := zv_some hf
  refine zt e_x1 ?_
  refine lv_istore_n (lv' := [(1, .int x1), (0, .ref (hM 0))]) hx hb dX8_noPins_7 rfl hl (by decide) rfl (fun ls hl => ?_)
  refine lv_aload_n hx hb dX8_noPins_8 rfl (lv_at hl 1 rfl) ?_
  refine va_get (D := D) (ci := 8) (v := .ref (hM 17)) (C := RX8) (T := TX8) (N := 14) hx hb hts hi8 hown hK hP 0 rfl rfl 5 (Nat.le_of_ble_eq_true rfl) (hts _ (List.mem_cons_of_mem _ wd_348)) (fun _ h9 => h9) rfl dX8_noPins_9 ?_
  refine lv_iconst (v := 0) hx hb dX8_noPins_12 (by decide) ?_
  obtain ⟨M_2, e_M_2, hf⟩ := zv_some hf
  refine va_put (D := D) (ci := 4) (v := .int 0) (ty := .int) (C := RX4) (T := TX4) (N := 3) hx hb hts hi4 tyX4 tyX4_ok nmX4 hown hK hP hD hS 17 rfl rfl 2 (Nat.le_of_ble_eq_true rfl) (hts _ (List.mem_cons_of_mem _ wd_119)) (fun _ h9 => h9) rfl (by decide +kernel) rfl rfl (Nat.le_of_ble_eq_true rfl) dX8_noPins_13 (fun H locs hP hD hS => ?_)
  have hP : va_P D vwCl (w8 cI cB hM (zs M 21 (fun _ => 0))) H := hP
  have hD : va_D A (w8 cI cB hM (zs M 21 (fun _ => 0))) := hD
  rw [← e_M_2] at hP hD
  refine lv_iload_n hx hb dX8_noPins_16 rfl (lv_at hl 0 rfl) ?_
  cases hf
  exact zretI hx hb hr hlocks hK hP hD hS dX8_noPins_17
def f_X8_thumb (M : zMm) (a1 : Int32) : Option (Int32) := if (0 : Int32) ≤ a1 then if (M 21 0) ≤ a1 then some ((-4) : Int32) else zl 12 (M 20) a1 (fun v3 => some v3) else some ((-1) : Int32)
abbrev ww_X8_thumb : List Cond := Cond.code yX8_thumb cX8_thumb 2 (some .int) :: wG
theorem q_X8_thumb : yX8_thumb.cls = RX8 ∧ yX8_thumb.cls ≠ "java/lang/invoke/MethodHandle" ∧ yX8_thumb.cls ≠ "java/lang/invoke/VarHandle" ∧ (parseMethodDescriptor yX8_thumb.desc).map (fun d => d.parameters.length) = some 1 := by decide +kernel
set_option maxHeartbeats 4000000 in
set_option maxRecDepth 100000 in
theorem c_X8_thumb (l : Launch) (D : va_G) (cI cB : ClassId) (hM : Nat → Nat) (M : zMm) (a1 : Int32) (r0 : Int32) (hf : f_X8_thumb M a1 = some r0) : zMi l yX8_thumb ww_X8_thumb ({ frames := 0, cells := 0, slots := 0, locals := 0 } : Room) D cI cB [.ref (hM 0), .int a1] [k8_0 cI cB hM M, k8_17 cI cB hM M, k8_19 cI cB hM M] r0 [k8_0 cI cB hM M, k8_17 cI cB hM M, k8_19 cI cB hM M] := by
  refine zofI (cc := cX8_thumb) (maxL := 2) (ret := (some .int)) (by decide +kernel) rfl (Nat.le_of_ble_eq_true rfl) ?_
  intro p e s m below meth c A ls hx hb hml hr hown hts hlocks hK hP hD hS hA hl
  have hl : lv_has ls 2 [(0, .ref (hM 0)), (1, .int a1)] := hl
  have hown : s.vm.findClass RX8 = some m.cls := hown
  have hG : ∀ w ∈ wG, w ∈ ww_X8_thumb := fun w h => List.mem_cons_of_mem _ h
  have hi4 : ∀ w ∈ wsX40, w ∈ ww_X8_thumb := fun w h => List.mem_cons_of_mem _ (z_inX4 w h)
  have hi8 : ∀ w ∈ wsX80, w ∈ ww_X8_thumb := fun w h => List.mem_cons_of_mem _ (z_inX8 w h)
  unfold f_X8_thumb at hf
  refine lv_iload_n hx hb dX8_thumb_0 rfl (lv_at hl 1 rfl) ?_
  refine lv_if_ge (tgt := 6) hx hb dX8_thumb_1 (by decide) (fun c_1 => ?_) (fun c_1 => ?_)
  · replace hf := zit c_1 hf
    refine lv_iload_n hx hb dX8_thumb_6 rfl (lv_at hl 1 rfl) ?_
    refine lv_aload_n hx hb dX8_thumb_7 rfl (lv_at hl 0 rfl) ?_
    refine va_get (D := D) (ci := 8) (v := .ref (hM 17)) (C := RX8) (T := TX8) (N := 14) hx hb hts hi8 hown hK hP 0 rfl rfl 5 (Nat.le_of_ble_eq_true rfl) (hts _ (List.mem_cons_of_mem _ wd_348)) (fun _ h9 => h9) rfl dX8_thumb_8 ?_
    refine va_get (D := D) (ci := 4) (v := .int (M 21 0)) (C := RX4) (T := TX4) (N := 3) hx hb hts hi4 hown hK hP 1 rfl rfl 2 (Nat.le_of_ble_eq_true rfl) (hts _ (List.mem_cons_of_mem _ wd_119)) (fun _ h9 => h9) rfl dX8_thumb_11 ?_
    refine lv_icmp_ge (tgt := 29) hx hb dX8_thumb_14 (by decide) (fun c_2 => ?_) (fun c_2 => ?_)
    · replace hf := zit c_2 hf
      refine lv_bipush (v := (-4)) hx hb dX8_thumb_29 (by decide) ?_
      cases hf
      exact zretI hx hb hr hlocks hK hP hD hS dX8_thumb_31
    · replace hf := zif c_2 hf
      refine lv_aload_n hx hb dX8_thumb_17 rfl (lv_at hl 0 rfl) ?_
      refine va_get (D := D) (ci := 8) (v := .ref (hM 17)) (C := RX8) (T := TX8) (N := 14) hx hb hts hi8 hown hK hP 0 rfl rfl 5 (Nat.le_of_ble_eq_true rfl) (hts _ (List.mem_cons_of_mem _ wd_348)) (fun _ h9 => h9) rfl dX8_thumb_18 ?_
      refine va_get (D := D) (ci := 4) (v := .ref (hM 19)) (C := RX4) (T := TX4) (N := 3) hx hb hts hi4 hown hK hP 1 rfl rfl 1 (Nat.le_of_ble_eq_true rfl) (hts _ (List.mem_cons_of_mem _ wd_117)) (fun _ h9 => h9) rfl dX8_thumb_21 ?_
      refine lv_iload_n hx hb dX8_thumb_24 rfl (lv_at hl 1 rfl) ?_
      obtain ⟨i_v3, v3, e_v3, hf⟩ := zl_some hf
      refine va_iald (n := 12) (f := M 20) (cA := cI) hx hb hK hP 2 0 rfl rfl i_v3 dX8_thumb_25 ?_
      refine zt e_v3 ?_
      refine lv_goto (tgt := 31) hx hb dX8_thumb_26 (by decide) ?_
      cases hf
      exact zretI hx hb hr hlocks hK hP hD hS dX8_thumb_31
  · replace hf := zif c_1 hf
    refine lv_iconst (v := (-1)) hx hb dX8_thumb_4 (by decide) ?_
    cases hf
    exact zretI hx hb hr hlocks hK hP hD hS dX8_thumb_5
def L_X8_year_42 (l1 : Int32) (l2 : Int32) (l3 : Int32) : Nat → Int32 → Int32 → Int32 → zMm → Option (Int32 × Int32 × Int32 × zMm)
  | 0, _, _, _, _ => none
  | n + 1, l4, l5, l6, M => if (l1 + l2) ≤ l6 then some (l4, l5, l6, M) else zb1 (f_X8_cutByBoy M (zrI l6 (1000 : Int32))) (fun (M_7 : zMm) => zb1 (f_X5_isClosedBy (fun j => M_7 (35 + j)) (fun j => M_7 (33 + j))) (fun (r9 : Int32) => zb1 (if r9 = 0 then some (0 : Int32) else some (1 : Int32)) (fun (y12 : Int32) => zv (l4 + y12) (fun (x15 : Int32) => zb1 (f_X5_sumOfGaps (fun j => M_7 (35 + j)) (fun j => M_7 (33 + j))) (fun (r16 : Int32) => zv (l5 + r16) (fun (x18 : Int32) => zv (l6 + 1) (fun (x19 : Int32) => L_X8_year_42 l1 l2 l3 n x15 x18 x19 M_7)))))))
def f_X8_year (M : zMm) (a1 : Int32) (a2 : Int32) (a3 : Int32) : Option (Int32 × zMm) := if a1 < 0 then some (((-1) : Int32), M) else if (1000 : Int32) ≤ a1 then some (((-1) : Int32), M) else if a2 < 1 then some (((-1) : Int32), M) else if (100 : Int32) < a2 then some (((-1) : Int32), M) else if a3 = 0 then zb4 (L_X8_year_42 a1 a2 a3 100000 0 0 a1 M) (fun (x20 : Int32) (x21 : Int32) (x22 : Int32) (M_23 : zMm) => if a3 = 0 then some (x20, M_23) else some (x21, M_23)) else if a3 = 1 then zb4 (L_X8_year_42 a1 a2 a3 100000 0 0 a1 M) (fun (x27 : Int32) (x28 : Int32) (x29 : Int32) (M_30 : zMm) => if a3 = 0 then some (x27, M_30) else some (x28, M_30)) else some (((-1) : Int32), M)
abbrev ww_X8_year : List Cond := Cond.code yX8_year cX8_year 7 (some .int) :: wG
theorem q_X8_year : yX8_year.cls = RX8 ∧ yX8_year.cls ≠ "java/lang/invoke/MethodHandle" ∧ yX8_year.cls ≠ "java/lang/invoke/VarHandle" ∧ (parseMethodDescriptor yX8_year.desc).map (fun d => d.parameters.length) = some 3 := by decide +kernel
set_option maxHeartbeats 4000000 in
set_option maxRecDepth 100000 in
theorem c_X8_year (l : Launch) (D : va_G) (cI cB : ClassId) (hM : Nat → Nat) (M : zMm) (a1 : Int32) (a2 : Int32) (a3 : Int32) (r0 : Int32) (M0 : zMm) (hf : f_X8_year M a1 a2 a3 = some (r0, M0)) : zMi l yX8_year ww_X8_year ({ frames := 3, cells := 0, slots := 0, locals := 68 } : Room) D cI cB [.ref (hM 0), .int a1, .int a2, .int a3] (w8 cI cB hM M) r0 (w8 cI cB hM M0) := by
  refine zofI (cc := cX8_year) (maxL := 7) (ret := (some .int)) (by decide +kernel) rfl (Nat.le_of_ble_eq_true rfl) ?_
  intro p e s m below meth c A ls hx hb hml hr hown hts hlocks hK hP hD hS hA hl
  have hl : lv_has ls 7 [(0, .ref (hM 0)), (1, .int a1), (2, .int a2), (3, .int a3)] := hl
  have hown : s.vm.findClass RX8 = some m.cls := hown
  have hG : ∀ w ∈ wG, w ∈ ww_X8_year := fun w h => List.mem_cons_of_mem _ h
  have hi8 : ∀ w ∈ wsX80, w ∈ ww_X8_year := fun w h => List.mem_cons_of_mem _ (z_inX8 w h)
  have L42 : ∀ (l1 : Int32) (l2 : Int32) (l3 : Int32) (n : Nat) (l4 : Int32) (l5 : Int32) (l6 : Int32) (M : zMm) (o4 : Int32) (o5 : Int32) (o6 : Int32) (oM : zMm), L_X8_year_42 l1 l2 l3 n l4 l5 l6 M = some (o4, o5, o6, oM) → zAt p l e ({ frames := 3, cells := 0, slots := 0, locals := 68 } : Room) s m [.ref (hM 0), .int a1, .int a2, .int a3].toArray below meth c (MQ below (zQi D cI cB r0 (w8 cI cB hM M0) A) [.ref (hM 0), .int a1, .int a2, .int a3].toArray s 0 0 A) A D 7 (w8 cI cB hM oM) [(0, .ref (hM 0)), (1, .int l1), (2, .int l2), (3, .int l3), (4, .int o4), (5, .int o5), (6, .int o6)] 106 [] → zAt p l e ({ frames := 3, cells := 0, slots := 0, locals := 68 } : Room) s m [.ref (hM 0), .int a1, .int a2, .int a3].toArray below meth c (MQ below (zQi D cI cB r0 (w8 cI cB hM M0) A) [.ref (hM 0), .int a1, .int a2, .int a3].toArray s 0 0 A) A D 7 (w8 cI cB hM M) [(0, .ref (hM 0)), (1, .int l1), (2, .int l2), (3, .int l3), (4, .int l4), (5, .int l5), (6, .int l6)] 42 [] := by
    intro l1 l2 l3 n
    induction n with
    | zero => intro l4 l5 l6 M o4 o5 o6 oM hf; simp [L_X8_year_42] at hf
    | succ n ih =>
      intro l4 l5 l6 M o4 o5 o6 oM hf hk H locs ls hP hD hS hl
      rw [L_X8_year_42] at hf
      refine lv_iload hx hb dX8_year_42 (lv_at hl 6 rfl) ?_
      refine lv_iload_n hx hb dX8_year_44 rfl (lv_at hl 1 rfl) ?_
      refine lv_iload_n hx hb dX8_year_45 rfl (lv_at hl 2 rfl) ?_
      refine lv_iadd hx hb dX8_year_46 ?_
      refine lv_icmp_ge (tgt := 106) hx hb dX8_year_47 (by decide) (fun c_6 => ?_) (fun c_6 => ?_)
      · replace hf := zit c_6 hf
        cases hf
        exact hk _ _ _ hP hD hS (lv_sub hl [0, 1, 2, 3, 4, 5, 6] rfl)
      · replace hf := zif c_6 hf
        refine lv_aload_n hx hb dX8_year_50 rfl (lv_at hl 0 rfl) ?_
        refine lv_iload hx hb dX8_year_51 (lv_at hl 6 rfl) ?_
        refine lv_sipush (v := 1000) hx hb dX8_year_53 (by decide) ?_
        refine lv_irem hx hb dX8_year_56 (by decide) ?_
        refine zt (y := zrI l6 (1000 : Int32)) rfl ?_
        obtain ⟨M_7, hq8, hf⟩ := zb1_some hf
        refine zcallVv (ws2 := (w8 cI cB hM M_7)) (rest := []) ⟨hx, hb, hml, hown, hts⟩ (c_X8_cutByBoy l D cI cB hM M (zrI l6 (1000 : Int32)) M_7 hq8) (cwV 1 hts (z_gV hG wd_622 wd_624 wd_s20 wd_1 wd_625) rfl rfl rfl q_X8_cutByBoy ⟨Nat.le_of_ble_eq_true rfl, Nat.le_of_ble_eq_true rfl⟩) hK hP hD hS hA 8 rfl rfl rfl [0, 1, 2, 3, 4, 5, 6, 7, 8, 9, 10, 11, 12, 13, 14, 15, 16, 17, 18, 19, 20, 21, 22, 23, 24, 25, 26, 27, 28, 29, 30, 31, 32, 33, 34, 35, 36, 37, 38, 39, 40, 41, 42, 43, 44] [] rfl rfl rfl rfl rfl rfl rfl hl.1 (Nat.le_of_ble_eq_true rfl) dX8_year_57 ⟨Nat.zero_le _, Nat.zero_le _⟩ rfl (fun H locs hP hD hS => ?_)
        refine lv_iload hx hb dX8_year_60 (lv_at hl 4 rfl) ?_
        refine lv_aload_n hx hb dX8_year_62 rfl (lv_at hl 0 rfl) ?_
        refine va_get (D := D) (ci := 8) (v := .ref (hM 31)) (C := RX8) (T := TX8) (N := 14) hx hb hts hi8 hown hK hP 0 rfl rfl 12 (Nat.le_of_ble_eq_true rfl) (hts _ (List.mem_cons_of_mem _ wd_355)) (fun _ h9 => h9) rfl dX8_year_63 ?_
        refine lv_aload_n hx hb dX8_year_66 rfl (lv_at hl 0 rfl) ?_
        refine va_get (D := D) (ci := 8) (v := .ref (hM 29)) (C := RX8) (T := TX8) (N := 14) hx hb hts hi8 hown hK hP 0 rfl rfl 10 (Nat.le_of_ble_eq_true rfl) (hts _ (List.mem_cons_of_mem _ wd_353)) (fun _ h9 => h9) rfl dX8_year_67 ?_
        obtain ⟨r9, hq10, hf⟩ := zb1_some hf
        refine zcallVi (ws2 := (w8 cI cB hM M_7)) (rest := [.int l4]) ⟨hx, hb, hml, hown, hts⟩ (c_X5_isClosedBy l D cI cB (fun j => hM (31 + j)) (fun j => hM (29 + j)) (fun j => M_7 (35 + j)) (fun j => M_7 (33 + j)) r9 hq10) (cwV 1 hts (z_gV hG wd_470 wd_471 wd_472 wd_10 wd_473) rfl rfl rfl q_X5_isClosedBy ⟨Nat.le_of_ble_eq_true rfl, Nat.le_of_ble_eq_true rfl⟩) hK hP hD hS hA 5 rfl rfl rfl [31, 36, 37, 29] [0, 1, 2, 3, 4, 5, 6, 7, 8, 9, 10, 11, 12, 13, 14, 15, 16, 17, 18, 19, 20, 21, 22, 23, 24, 25, 26, 27, 28, 30, 32, 33, 34, 35, 38, 39, 40, 41, 42, 43, 44] rfl rfl rfl rfl rfl rfl rfl hl.1 (Nat.le_of_ble_eq_true rfl) dX8_year_70 ⟨Nat.zero_le _, Nat.zero_le _⟩ rfl (fun H locs hP hD hS => ?_)
        obtain ⟨y12, hq13, hf⟩ := zb1_some hf
        have J14 : zAt p l e ({ frames := 3, cells := 0, slots := 0, locals := 68 } : Room) s m [.ref (hM 0), .int a1, .int a2, .int a3].toArray below meth c (MQ below (zQi D cI cB r0 (w8 cI cB hM M0) A) [.ref (hM 0), .int a1, .int a2, .int a3].toArray s 0 0 A) A D 7 (w8 cI cB hM M_7) [(0, .ref (hM 0)), (1, .int l1), (2, .int l2), (3, .int l3), (4, .int l4), (5, .int l5), (6, .int l6)] 81 [.int y12, .int l4] := by
          intro H locs ls hP hD hS hl
          refine lv_iadd hx hb dX8_year_81 ?_
          obtain ⟨x15, e_x15, hf⟩ := zv_some hf
          refine zt e_x15 ?_
          refine lv_istore (lv' := [(4, .int x15), (0, .ref (hM 0)), (1, .int l1), (2, .int l2), (3, .int l3), (5, .int l5), (6, .int l6)]) hx hb dX8_year_82 hl (by decide) rfl (fun ls hl => ?_)
          refine lv_iload hx hb dX8_year_84 (lv_at hl 5 rfl) ?_
          refine lv_aload_n hx hb dX8_year_86 rfl (lv_at hl 1 rfl) ?_
          refine va_get (D := D) (ci := 8) (v := .ref (hM 31)) (C := RX8) (T := TX8) (N := 14) hx hb hts hi8 hown hK hP 0 rfl rfl 12 (Nat.le_of_ble_eq_true rfl) (hts _ (List.mem_cons_of_mem _ wd_355)) (fun _ h9 => h9) rfl dX8_year_87 ?_
          refine lv_aload_n hx hb dX8_year_90 rfl (lv_at hl 1 rfl) ?_
          refine va_get (D := D) (ci := 8) (v := .ref (hM 29)) (C := RX8) (T := TX8) (N := 14) hx hb hts hi8 hown hK hP 0 rfl rfl 10 (Nat.le_of_ble_eq_true rfl) (hts _ (List.mem_cons_of_mem _ wd_353)) (fun _ h9 => h9) rfl dX8_year_91 ?_
          obtain ⟨r16, hq17, hf⟩ := zb1_some hf
          refine zcallVi (ws2 := (w8 cI cB hM M_7)) (rest := [.int l5]) ⟨hx, hb, hml, hown, hts⟩ (c_X5_sumOfGaps l D cI cB (fun j => hM (31 + j)) (fun j => hM (29 + j)) (fun j => M_7 (35 + j)) (fun j => M_7 (33 + j)) r16 hq17) (cwV 1 hts (z_gV hG wd_454 wd_455 wd_456 wd_10 wd_457) rfl rfl rfl q_X5_sumOfGaps ⟨Nat.le_of_ble_eq_true rfl, Nat.le_of_ble_eq_true rfl⟩) hK hP hD hS hA 5 rfl rfl rfl [31, 36, 37, 29] [0, 1, 2, 3, 4, 5, 6, 7, 8, 9, 10, 11, 12, 13, 14, 15, 16, 17, 18, 19, 20, 21, 22, 23, 24, 25, 26, 27, 28, 30, 32, 33, 34, 35, 38, 39, 40, 41, 42, 43, 44] rfl rfl rfl rfl rfl rfl rfl hl.1 (Nat.le_of_ble_eq_true rfl) dX8_year_94 ⟨Nat.zero_le _, Nat.zero_le _⟩ rfl (fun H locs hP hD hS => ?_)
          refine lv_iadd hx hb dX8_year_97 ?_
          obtain ⟨x18, e_x18, hf⟩ := zv_some hf
          refine zt e_x18 ?_
          refine lv_istore (lv' := [(5, .int x18), (4, .int x15), (0, .ref (hM 0)), (1, .int l1), (2, .int l2), (3, .int l3), (6, .int l6)]) hx hb dX8_year_98 hl (by decide) rfl (fun ls hl => ?_)
          obtain ⟨x19, e_x19, hf⟩ := zv_some hf
          refine lv_iinc (v := x19) (lv' := [(6, .int x19), (5, .int x18), (4, .int x15), (0, .ref (hM 0)), (1, .int l1), (2, .int l2), (3, .int l3)]) hx hb dX8_year_100 hl (k := 6) rfl (by rw [e_x19]; rfl) (by decide) rfl (fun ls hl => ?_)
          refine lv_goto (tgt := 42) hx hb dX8_year_103 (by decide) ?_
          exact ih _ _ _ _ _ _ _ _ hf hk _ _ _ hP hD hS (lv_sub hl [3, 4, 5, 6, 2, 1, 0] rfl)
        replace hf := hq13
        refine lv_if_eq (tgt := 80) hx hb dX8_year_73 (by decide) (fun c_11 => ?_) (fun c_11 => ?_)
        · replace hf := zit c_11 hf
          refine lv_iconst (v := 0) hx hb dX8_year_80 (by decide) ?_
          cases hf
          exact J14 _ _ _ hP hD hS (lv_sub hl [0, 1, 2, 3, 4, 5, 6] rfl)
        · replace hf := zif c_11 hf
          refine lv_iconst (v := 1) hx hb dX8_year_76 (by decide) ?_
          refine lv_goto (tgt := 81) hx hb dX8_year_77 (by decide) ?_
          cases hf
          exact J14 _ _ _ hP hD hS (lv_sub hl [0, 1, 2, 3, 4, 5, 6] rfl)
  unfold f_X8_year at hf
  refine lv_iload_n hx hb dX8_year_0 rfl (lv_at hl 1 rfl) ?_
  refine lv_if_lt (tgt := 31) hx hb dX8_year_1 (by decide) (fun c_1 => ?_) (fun c_1 => ?_)
  · replace hf := zit c_1 hf
    refine lv_iconst (v := (-1)) hx hb dX8_year_31 (by decide) ?_
    cases hf
    exact zretI hx hb hr hlocks hK hP hD hS dX8_year_32
  · replace hf := zif c_1 hf
    refine lv_iload_n hx hb dX8_year_4 rfl (lv_at hl 1 rfl) ?_
    refine lv_sipush (v := 1000) hx hb dX8_year_5 (by decide) ?_
    refine lv_icmp_ge (tgt := 31) hx hb dX8_year_8 (by decide) (fun c_2 => ?_) (fun c_2 => ?_)
    · replace hf := zit c_2 hf
      refine lv_iconst (v := (-1)) hx hb dX8_year_31 (by decide) ?_
      cases hf
      exact zretI hx hb hr hlocks hK hP hD hS dX8_year_32
    · replace hf := zif c_2 hf
      refine lv_iload_n hx hb dX8_year_11 rfl (lv_at hl 2 rfl) ?_
      refine lv_iconst (v := 1) hx hb dX8_year_12 (by decide) ?_
      refine lv_icmp_lt (tgt := 31) hx hb dX8_year_13 (by decide) (fun c_3 => ?_) (fun c_3 => ?_)
      · replace hf := zit c_3 hf
        refine lv_iconst (v := (-1)) hx hb dX8_year_31 (by decide) ?_
        cases hf
        exact zretI hx hb hr hlocks hK hP hD hS dX8_year_32
      · replace hf := zif c_3 hf
        refine lv_iload_n hx hb dX8_year_16 rfl (lv_at hl 2 rfl) ?_
        refine lv_bipush (v := 100) hx hb dX8_year_17 (by decide) ?_
        refine lv_icmp_gt (tgt := 31) hx hb dX8_year_19 (by decide) (fun c_4 => ?_) (fun c_4 => ?_)
        · replace hf := zit c_4 hf
          refine lv_iconst (v := (-1)) hx hb dX8_year_31 (by decide) ?_
          cases hf
          exact zretI hx hb hr hlocks hK hP hD hS dX8_year_32
        · replace hf := zif c_4 hf
          refine lv_iload_n hx hb dX8_year_22 rfl (lv_at hl 3 rfl) ?_
          refine lv_if_eq (tgt := 33) hx hb dX8_year_23 (by decide) (fun c_5 => ?_) (fun c_5 => ?_)
          · replace hf := zit c_5 hf
            refine lv_iconst (v := 0) hx hb dX8_year_33 (by decide) ?_
            refine lv_istore (lv' := [(4, .int 0), (0, .ref (hM 0)), (1, .int a1), (2, .int a2), (3, .int a3)]) hx hb dX8_year_34 hl (by decide) rfl (fun ls hl => ?_)
            refine lv_iconst (v := 0) hx hb dX8_year_36 (by decide) ?_
            refine lv_istore (lv' := [(5, .int 0), (4, .int 0), (0, .ref (hM 0)), (1, .int a1), (2, .int a2), (3, .int a3)]) hx hb dX8_year_37 hl (by decide) rfl (fun ls hl => ?_)
            refine lv_iload_n hx hb dX8_year_39 rfl (lv_at hl 3 rfl) ?_
            refine lv_istore (lv' := [(6, .int a1), (5, .int 0), (4, .int 0), (0, .ref (hM 0)), (1, .int a1), (2, .int a2), (3, .int a3)]) hx hb dX8_year_40 hl (by decide) rfl (fun ls hl => ?_)
            obtain ⟨x20, x21, x22, M_23, hq24, hf⟩ := zb4_some hf
            refine L42 _ _ _ _ _ _ _ _ _ _ _ _ hq24 ?_ _ _ _ hP hD hS (lv_sub hl [3, 4, 5, 6, 2, 1, 0] rfl)
            intro H locs ls hP hD hS hl
            refine lv_iload_n hx hb dX8_year_106 rfl (lv_at hl 3 rfl) ?_
            refine lv_if_ne (tgt := 115) hx hb dX8_year_107 (by decide) (fun c_25 => ?_) (fun c_25 => ?_)
            · replace hf := zif c_25 hf
              refine lv_iload hx hb dX8_year_115 (lv_at hl 5 rfl) ?_
              cases hf
              exact zretI hx hb hr hlocks hK hP hD hS dX8_year_117
            · replace hf := zit c_25 hf
              refine lv_iload hx hb dX8_year_110 (lv_at hl 4 rfl) ?_
              refine lv_goto (tgt := 117) hx hb dX8_year_112 (by decide) ?_
              cases hf
              exact zretI hx hb hr hlocks hK hP hD hS dX8_year_117
          · replace hf := zif c_5 hf
            refine lv_iload_n hx hb dX8_year_26 rfl (lv_at hl 3 rfl) ?_
            refine lv_iconst (v := 1) hx hb dX8_year_27 (by decide) ?_
            refine lv_icmp_eq (tgt := 33) hx hb dX8_year_28 (by decide) (fun c_26 => ?_) (fun c_26 => ?_)
            · replace hf := zit c_26 hf
              refine lv_iconst (v := 0) hx hb dX8_year_33 (by decide) ?_
              refine lv_istore (lv' := [(4, .int 0), (0, .ref (hM 0)), (1, .int a1), (2, .int a2), (3, .int a3)]) hx hb dX8_year_34 hl (by decide) rfl (fun ls hl => ?_)
              refine lv_iconst (v := 0) hx hb dX8_year_36 (by decide) ?_
              refine lv_istore (lv' := [(5, .int 0), (4, .int 0), (0, .ref (hM 0)), (1, .int a1), (2, .int a2), (3, .int a3)]) hx hb dX8_year_37 hl (by decide) rfl (fun ls hl => ?_)
              refine lv_iload_n hx hb dX8_year_39 rfl (lv_at hl 3 rfl) ?_
              refine lv_istore (lv' := [(6, .int a1), (5, .int 0), (4, .int 0), (0, .ref (hM 0)), (1, .int a1), (2, .int a2), (3, .int a3)]) hx hb dX8_year_40 hl (by decide) rfl (fun ls hl => ?_)
              obtain ⟨x27, x28, x29, M_30, hq31, hf⟩ := zb4_some hf
              refine L42 _ _ _ _ _ _ _ _ _ _ _ _ hq31 ?_ _ _ _ hP hD hS (lv_sub hl [3, 4, 5, 6, 2, 1, 0] rfl)
              intro H locs ls hP hD hS hl
              refine lv_iload_n hx hb dX8_year_106 rfl (lv_at hl 3 rfl) ?_
              refine lv_if_ne (tgt := 115) hx hb dX8_year_107 (by decide) (fun c_32 => ?_) (fun c_32 => ?_)
              · replace hf := zif c_32 hf
                refine lv_iload hx hb dX8_year_115 (lv_at hl 5 rfl) ?_
                cases hf
                exact zretI hx hb hr hlocks hK hP hD hS dX8_year_117
              · replace hf := zit c_32 hf
                refine lv_iload hx hb dX8_year_110 (lv_at hl 4 rfl) ?_
                refine lv_goto (tgt := 117) hx hb dX8_year_112 (by decide) ?_
                cases hf
                exact zretI hx hb hr hlocks hK hP hD hS dX8_year_117
            · replace hf := zif c_26 hf
              refine lv_iconst (v := (-1)) hx hb dX8_year_31 (by decide) ?_
              cases hf
              exact zretI hx hb hr hlocks hK hP hD hS dX8_year_32
def f_X8_keep (M : zMm) : Option (Int32 × zMm) := if (M 13 0) < 2 then zb1 (f_X2b_push (fun j => M (10 + j)) (fun j => M (3 + j))) (fun (M_2 : zMm) => zv (zp M 10 5 M_2) (fun (M_4 : zMm) => some (M_4 13 0, M_4))) else some (((-3) : Int32), M)
abbrev ww_X8_keep : List Cond := Cond.code yX8_keep cX8_keep 1 (some .int) :: wG
theorem q_X8_keep : yX8_keep.cls = RX8 ∧ yX8_keep.cls ≠ "java/lang/invoke/MethodHandle" ∧ yX8_keep.cls ≠ "java/lang/invoke/VarHandle" ∧ (parseMethodDescriptor yX8_keep.desc).map (fun d => d.parameters.length) = some 0 := by decide +kernel
set_option maxHeartbeats 4000000 in
set_option maxRecDepth 100000 in
theorem c_X8_keep (l : Launch) (D : va_G) (cI cB : ClassId) (hM : Nat → Nat) (M : zMm) (r0 : Int32) (M0 : zMm) (hf : f_X8_keep M = some (r0, M0)) : zMi l yX8_keep ww_X8_keep ({ frames := 2, cells := 0, slots := 0, locals := 43 } : Room) D cI cB [.ref (hM 0)] (w8 cI cB hM M) r0 (w8 cI cB hM M0) := by
  refine zofI (cc := cX8_keep) (maxL := 1) (ret := (some .int)) (by decide +kernel) rfl (Nat.le_of_ble_eq_true rfl) ?_
  intro p e s m below meth c A ls hx hb hml hr hown hts hlocks hK hP hD hS hA hl
  have hl : lv_has ls 1 [(0, .ref (hM 0))] := hl
  have hown : s.vm.findClass RX8 = some m.cls := hown
  have hG : ∀ w ∈ wG, w ∈ ww_X8_keep := fun w h => List.mem_cons_of_mem _ h
  have hi2 : ∀ w ∈ wsX20, w ∈ ww_X8_keep := fun w h => List.mem_cons_of_mem _ (z_inX2 w h)
  have hi8 : ∀ w ∈ wsX80, w ∈ ww_X8_keep := fun w h => List.mem_cons_of_mem _ (z_inX8 w h)
  unfold f_X8_keep at hf
  refine lv_aload_n hx hb dX8_keep_0 rfl (lv_at hl 0 rfl) ?_
  refine va_get (D := D) (ci := 8) (v := .ref (hM 10)) (C := RX8) (T := TX8) (N := 14) hx hb hts hi8 hown hK hP 0 rfl rfl 3 (Nat.le_of_ble_eq_true rfl) (hts _ (List.mem_cons_of_mem _ wd_346)) (fun _ h9 => h9) rfl dX8_keep_1 ?_
  refine va_get (D := D) (ci := 2) (v := .int (M 13 0)) (C := RX2) (T := TX2) (N := 5) hx hb hts hi2 hown hK hP 10 rfl rfl 3 (Nat.le_of_ble_eq_true rfl) (hts _ (List.mem_cons_of_mem _ wd_76)) (fun _ h9 => h9) rfl dX8_keep_4 ?_
  refine lv_iconst (v := 2) hx hb dX8_keep_7 (by decide) ?_
  refine lv_icmp_lt (tgt := 14) hx hb dX8_keep_8 (by decide) (fun c_1 => ?_) (fun c_1 => ?_)
  · replace hf := zit c_1 hf
    refine lv_aload_n hx hb dX8_keep_14 rfl (lv_at hl 0 rfl) ?_
    refine va_get (D := D) (ci := 8) (v := .ref (hM 10)) (C := RX8) (T := TX8) (N := 14) hx hb hts hi8 hown hK hP 0 rfl rfl 3 (Nat.le_of_ble_eq_true rfl) (hts _ (List.mem_cons_of_mem _ wd_346)) (fun _ h9 => h9) rfl dX8_keep_15 ?_
    refine lv_aload_n hx hb dX8_keep_18 rfl (lv_at hl 0 rfl) ?_
    refine va_get (D := D) (ci := 8) (v := .ref (hM 4)) (C := RX8) (T := TX8) (N := 14) hx hb hts hi8 hown hK hP 0 rfl rfl 1 (Nat.le_of_ble_eq_true rfl) (hts _ (List.mem_cons_of_mem _ wd_344)) (fun _ h9 => h9) rfl dX8_keep_19 ?_
    obtain ⟨M_2, hq3, hf⟩ := zb1_some hf
    refine zcallVv (ws2 := (w8 cI cB hM (zp M 10 5 M_2))) (rest := []) ⟨hx, hb, hml, hown, hts⟩ (c_X2b_push l D cI cB (fun j => hM (10 + j)) (fun j => hM (4 + j)) (fun j => M (10 + j)) (fun j => M (3 + j)) M_2 hq3) (cwV 1 hts (z_gV hG wd_478 wd_479 wd_480 wd_4 wd_481) rfl rfl rfl q_X2b_push ⟨Nat.le_of_ble_eq_true rfl, Nat.le_of_ble_eq_true rfl⟩) hK hP hD hS hA 2 rfl rfl rfl [10, 11, 12, 4, 5, 6] [0, 1, 2, 3, 7, 8, 9, 13, 14, 15, 16, 17, 18, 19, 20, 21, 22, 23, 24, 25, 26, 27, 28, 29, 30, 31, 32, 33, 34, 35, 36, 37, 38, 39, 40, 41, 42, 43, 44] rfl rfl rfl (z_em ⟨rfl, rfl, rfl, rfl, rfl, rfl, rfl, rfl, rfl, rfl, rfl, rfl, rfl, rfl, rfl, rfl, rfl, rfl, rfl, rfl, rfl, rfl, rfl, rfl, rfl, rfl, rfl, rfl, rfl, rfl, rfl, rfl, rfl, rfl, rfl, rfl, rfl, rfl, rfl, trivial⟩) rfl rfl rfl hl.1 (Nat.le_of_ble_eq_true rfl) dX8_keep_22 ⟨Nat.zero_le _, Nat.zero_le _⟩ rfl (fun H locs hP hD hS => ?_)
    obtain ⟨M_4, e_M_4, hf⟩ := zv_some hf
    rw [← e_M_4] at hP hD
    refine lv_aload_n hx hb dX8_keep_25 rfl (lv_at hl 0 rfl) ?_
    refine va_get (D := D) (ci := 8) (v := .ref (hM 10)) (C := RX8) (T := TX8) (N := 14) hx hb hts hi8 hown hK hP 0 rfl rfl 3 (Nat.le_of_ble_eq_true rfl) (hts _ (List.mem_cons_of_mem _ wd_346)) (fun _ h9 => h9) rfl dX8_keep_26 ?_
    refine va_get (D := D) (ci := 2) (v := .int (M_4 13 0)) (C := RX2) (T := TX2) (N := 5) hx hb hts hi2 hown hK hP 10 rfl rfl 3 (Nat.le_of_ble_eq_true rfl) (hts _ (List.mem_cons_of_mem _ wd_76)) (fun _ h9 => h9) rfl dX8_keep_29 ?_
    cases hf
    exact zretI hx hb hr hlocks hK hP hD hS dX8_keep_32
  · replace hf := zif c_1 hf
    refine lv_bipush (v := (-3)) hx hb dX8_keep_11 (by decide) ?_
    cases hf
    exact zretI hx hb hr hlocks hK hP hD hS dX8_keep_13
def f_X8_back (M : zMm) : Option (Int32 × zMm) := if (M 13 0) = 0 then some (((-2) : Int32), M) else zb2 (f_X2b_popInto (fun j => M (10 + j)) (fun j => M (3 + j))) (fun (M_2 : zMm) (M_3 : zMm) => zv (zp (zp M 10 5 M_2) 3 2 M_3) (fun (M_5 : zMm) => zb1 (f_X2a_clear (fun j => M_5 (5 + j))) (fun (M_6 : zMm) => zv (zp M_5 5 5 M_6) (fun (M_8 : zMm) => some (M_8 13 0, M_8)))))
abbrev ww_X8_back : List Cond := Cond.code yX8_back cX8_back 1 (some .int) :: wG
theorem q_X8_back : yX8_back.cls = RX8 ∧ yX8_back.cls ≠ "java/lang/invoke/MethodHandle" ∧ yX8_back.cls ≠ "java/lang/invoke/VarHandle" ∧ (parseMethodDescriptor yX8_back.desc).map (fun d => d.parameters.length) = some 0 := by decide +kernel
set_option maxHeartbeats 4000000 in
set_option maxRecDepth 100000 in
theorem c_X8_back (l : Launch) (D : va_G) (cI cB : ClassId) (hM : Nat → Nat) (M : zMm) (r0 : Int32) (M0 : zMm) (hf : f_X8_back M = some (r0, M0)) : zMi l yX8_back ww_X8_back ({ frames := 1, cells := 0, slots := 0, locals := 22 } : Room) D cI cB [.ref (hM 0)] (w8 cI cB hM M) r0 (w8 cI cB hM M0) := by
  refine zofI (cc := cX8_back) (maxL := 1) (ret := (some .int)) (by decide +kernel) rfl (Nat.le_of_ble_eq_true rfl) ?_
  intro p e s m below meth c A ls hx hb hml hr hown hts hlocks hK hP hD hS hA hl
  have hl : lv_has ls 1 [(0, .ref (hM 0))] := hl
  have hown : s.vm.findClass RX8 = some m.cls := hown
  have hG : ∀ w ∈ wG, w ∈ ww_X8_back := fun w h => List.mem_cons_of_mem _ h
  have hi2 : ∀ w ∈ wsX20, w ∈ ww_X8_back := fun w h => List.mem_cons_of_mem _ (z_inX2 w h)
  have hi8 : ∀ w ∈ wsX80, w ∈ ww_X8_back := fun w h => List.mem_cons_of_mem _ (z_inX8 w h)
  unfold f_X8_back at hf
  refine lv_aload_n hx hb dX8_back_0 rfl (lv_at hl 0 rfl) ?_
  refine va_get (D := D) (ci := 8) (v := .ref (hM 10)) (C := RX8) (T := TX8) (N := 14) hx hb hts hi8 hown hK hP 0 rfl rfl 3 (Nat.le_of_ble_eq_true rfl) (hts _ (List.mem_cons_of_mem _ wd_346)) (fun _ h9 => h9) rfl dX8_back_1 ?_
  refine va_get (D := D) (ci := 2) (v := .int (M 13 0)) (C := RX2) (T := TX2) (N := 5) hx hb hts hi2 hown hK hP 10 rfl rfl 3 (Nat.le_of_ble_eq_true rfl) (hts _ (List.mem_cons_of_mem _ wd_76)) (fun _ h9 => h9) rfl dX8_back_4 ?_
  refine lv_if_ne (tgt := 13) hx hb dX8_back_7 (by decide) (fun c_1 => ?_) (fun c_1 => ?_)
  · replace hf := zif c_1 hf
    refine lv_aload_n hx hb dX8_back_13 rfl (lv_at hl 0 rfl) ?_
    refine va_get (D := D) (ci := 8) (v := .ref (hM 10)) (C := RX8) (T := TX8) (N := 14) hx hb hts hi8 hown hK hP 0 rfl rfl 3 (Nat.le_of_ble_eq_true rfl) (hts _ (List.mem_cons_of_mem _ wd_346)) (fun _ h9 => h9) rfl dX8_back_14 ?_
    refine lv_aload_n hx hb dX8_back_17 rfl (lv_at hl 0 rfl) ?_
    refine va_get (D := D) (ci := 8) (v := .ref (hM 4)) (C := RX8) (T := TX8) (N := 14) hx hb hts hi8 hown hK hP 0 rfl rfl 1 (Nat.le_of_ble_eq_true rfl) (hts _ (List.mem_cons_of_mem _ wd_344)) (fun _ h9 => h9) rfl dX8_back_18 ?_
    obtain ⟨M_2, M_3, hq4, hf⟩ := zb2_some hf
    refine zcallVv (ws2 := (w8 cI cB hM (zp (zp M 10 5 M_2) 3 2 M_3))) (rest := []) ⟨hx, hb, hml, hown, hts⟩ (c_X2b_popInto l D cI cB (fun j => hM (10 + j)) (fun j => hM (4 + j)) (fun j => M (10 + j)) (fun j => M (3 + j)) M_2 M_3 hq4) (cwV 1 hts (z_gV hG wd_495 wd_496 wd_497 wd_4 wd_498) rfl rfl rfl q_X2b_popInto ⟨Nat.le_of_ble_eq_true rfl, Nat.le_of_ble_eq_true rfl⟩) hK hP hD hS hA 2 rfl rfl rfl [10, 11, 12, 4, 5, 6] [0, 1, 2, 3, 7, 8, 9, 13, 14, 15, 16, 17, 18, 19, 20, 21, 22, 23, 24, 25, 26, 27, 28, 29, 30, 31, 32, 33, 34, 35, 36, 37, 38, 39, 40, 41, 42, 43, 44] rfl rfl rfl (z_em ⟨rfl, rfl, rfl, rfl, rfl, rfl, rfl, rfl, rfl, rfl, rfl, rfl, rfl, rfl, rfl, rfl, rfl, rfl, rfl, rfl, rfl, rfl, rfl, rfl, rfl, rfl, rfl, rfl, rfl, rfl, rfl, rfl, rfl, rfl, rfl, rfl, rfl, rfl, rfl, trivial⟩) rfl rfl rfl hl.1 (Nat.le_of_ble_eq_true rfl) dX8_back_21 ⟨Nat.zero_le _, Nat.zero_le _⟩ rfl (fun H locs hP hD hS => ?_)
    obtain ⟨M_5, e_M_5, hf⟩ := zv_some hf
    rw [← e_M_5] at hP hD
    refine lv_aload_n hx hb dX8_back_24 rfl (lv_at hl 0 rfl) ?_
    refine va_get (D := D) (ci := 8) (v := .ref (hM 7)) (C := RX8) (T := TX8) (N := 14) hx hb hts hi8 hown hK hP 0 rfl rfl 2 (Nat.le_of_ble_eq_true rfl) (hts _ (List.mem_cons_of_mem _ wd_345)) (fun _ h9 => h9) rfl dX8_back_25 ?_
    obtain ⟨M_6, hq7, hf⟩ := zb1_some hf
    refine zcallVv (ws2 := (w8 cI cB hM (zp M_5 5 5 M_6))) (rest := []) ⟨hx, hb, hml, hown, hts⟩ (c_X2a_clear l D cI cB (fun j => hM (7 + j)) (fun j => M_5 (5 + j)) M_6 hq7) (cwV 0 hts (z_gV hG wd_403 wd_404 wd_405 wd_4 wd_406) rfl rfl rfl q_X2a_clear ⟨Nat.le_of_ble_eq_true rfl, Nat.le_of_ble_eq_true rfl⟩) hK hP hD hS hA 2 rfl rfl rfl [7, 8, 9] [0, 1, 2, 3, 4, 5, 6, 10, 11, 12, 13, 14, 15, 16, 17, 18, 19, 20, 21, 22, 23, 24, 25, 26, 27, 28, 29, 30, 31, 32, 33, 34, 35, 36, 37, 38, 39, 40, 41, 42, 43, 44] rfl rfl rfl (z_em ⟨rfl, rfl, rfl, rfl, rfl, rfl, rfl, rfl, rfl, rfl, rfl, rfl, rfl, rfl, rfl, rfl, rfl, rfl, rfl, rfl, rfl, rfl, rfl, rfl, rfl, rfl, rfl, rfl, rfl, rfl, rfl, rfl, rfl, rfl, rfl, rfl, rfl, rfl, rfl, rfl, rfl, rfl, trivial⟩) rfl rfl rfl hl.1 (Nat.le_of_ble_eq_true rfl) dX8_back_28 ⟨Nat.zero_le _, Nat.zero_le _⟩ rfl (fun H locs hP hD hS => ?_)
    obtain ⟨M_8, e_M_8, hf⟩ := zv_some hf
    rw [← e_M_8] at hP hD
    refine lv_aload_n hx hb dX8_back_31 rfl (lv_at hl 0 rfl) ?_
    refine va_get (D := D) (ci := 8) (v := .ref (hM 10)) (C := RX8) (T := TX8) (N := 14) hx hb hts hi8 hown hK hP 0 rfl rfl 3 (Nat.le_of_ble_eq_true rfl) (hts _ (List.mem_cons_of_mem _ wd_346)) (fun _ h9 => h9) rfl dX8_back_32 ?_
    refine va_get (D := D) (ci := 2) (v := .int (M_8 13 0)) (C := RX2) (T := TX2) (N := 5) hx hb hts hi2 hown hK hP 10 rfl rfl 3 (Nat.le_of_ble_eq_true rfl) (hts _ (List.mem_cons_of_mem _ wd_76)) (fun _ h9 => h9) rfl dX8_back_35 ?_
    cases hf
    exact zretI hx hb hr hlocks hK hP hD hS dX8_back_38
  · replace hf := zit c_1 hf
    refine lv_bipush (v := (-2)) hx hb dX8_back_10 (by decide) ?_
    cases hf
    exact zretI hx hb hr hlocks hK hP hD hS dX8_back_12
def f_X8_count (M : zMm) (a1 : Int32) : Option (Int32) := if a1 = 0 then some (M 41 0) else if a1 = 1 then some (M 42 0) else if a1 = 2 then some (M 43 0) else if a1 = 3 then some (M 18 0) else if a1 = 4 then some (M 21 0) else if a1 = 5 then some (M 8 0) else if a1 = 6 then some (M 13 0) else if a1 = 7 then some (M 2 0) else some ((-1) : Int32)
abbrev ww_X8_count : List Cond := Cond.code yX8_count cX8_count 2 (some .int) :: wG
theorem q_X8_count : yX8_count.cls = RX8 ∧ yX8_count.cls ≠ "java/lang/invoke/MethodHandle" ∧ yX8_count.cls ≠ "java/lang/invoke/VarHandle" ∧ (parseMethodDescriptor yX8_count.desc).map (fun d => d.parameters.length) = some 1 := by decide +kernel
set_option maxHeartbeats 4000000 in
set_option maxRecDepth 100000 in
theorem c_X8_count (l : Launch) (D : va_G) (cI cB : ClassId) (hM : Nat → Nat) (M : zMm) (a1 : Int32) (r0 : Int32) (hf : f_X8_count M a1 = some r0) : zMi l yX8_count ww_X8_count ({ frames := 0, cells := 0, slots := 0, locals := 0 } : Room) D cI cB [.ref (hM 0), .int a1] [k8_0 cI cB hM M, k8_1 cI cB hM M, k8_7 cI cB hM M, k8_10 cI cB hM M, k8_13 cI cB hM M, k8_17 cI cB hM M, k8_31 cI cB hM M] r0 [k8_0 cI cB hM M, k8_1 cI cB hM M, k8_7 cI cB hM M, k8_10 cI cB hM M, k8_13 cI cB hM M, k8_17 cI cB hM M, k8_31 cI cB hM M] := by
  refine zofI (cc := cX8_count) (maxL := 2) (ret := (some .int)) (by decide +kernel) rfl (Nat.le_of_ble_eq_true rfl) ?_
  intro p e s m below meth c A ls hx hb hml hr hown hts hlocks hK hP hD hS hA hl
  have hl : lv_has ls 2 [(0, .ref (hM 0)), (1, .int a1)] := hl
  have hown : s.vm.findClass RX8 = some m.cls := hown
  have hG : ∀ w ∈ wG, w ∈ ww_X8_count := fun w h => List.mem_cons_of_mem _ h
  have hi2 : ∀ w ∈ wsX20, w ∈ ww_X8_count := fun w h => List.mem_cons_of_mem _ (z_inX2 w h)
  have hi4 : ∀ w ∈ wsX40, w ∈ ww_X8_count := fun w h => List.mem_cons_of_mem _ (z_inX4 w h)
  have hi5 : ∀ w ∈ wsX50, w ∈ ww_X8_count := fun w h => List.mem_cons_of_mem _ (z_inX5 w h)
  have hi6 : ∀ w ∈ wsX60, w ∈ ww_X8_count := fun w h => List.mem_cons_of_mem _ (z_inX6 w h)
  have hi7 : ∀ w ∈ wsX70, w ∈ ww_X8_count := fun w h => List.mem_cons_of_mem _ (z_inX7 w h)
  have hi8 : ∀ w ∈ wsX80, w ∈ ww_X8_count := fun w h => List.mem_cons_of_mem _ (z_inX8 w h)
  unfold f_X8_count at hf
  refine lv_iload_n hx hb dX8_count_0 rfl (lv_at hl 1 rfl) ?_
  by_cases c_1 : a1 = 0
  · replace hf := zit c_1 hf
    refine zt c_1.symm ?_
    refine lv_tableIn (tgt := 48) hx hb dX8_count_1 (by decide) (by decide) rfl (by decide) ?_
    refine lv_aload_n hx hb dX8_count_48 rfl (lv_at hl 0 rfl) ?_
    refine va_get (D := D) (ci := 8) (v := .ref (hM 31)) (C := RX8) (T := TX8) (N := 14) hx hb hts hi8 hown hK hP 0 rfl rfl 12 (Nat.le_of_ble_eq_true rfl) (hts _ (List.mem_cons_of_mem _ wd_355)) (fun _ h9 => h9) rfl dX8_count_49 ?_
    refine va_get (D := D) (ci := 5) (v := .int (M 41 0)) (C := RX5) (T := TX5) (N := 12) hx hb hts hi5 hown hK hP 6 rfl rfl 6 (Nat.le_of_ble_eq_true rfl) (hts _ (List.mem_cons_of_mem _ wd_192)) (fun _ h9 => h9) rfl dX8_count_52 ?_
    cases hf
    exact zretI hx hb hr hlocks hK hP hD hS dX8_count_55
  · replace hf := zif c_1 hf
    by_cases c_2 : a1 = 1
    · replace hf := zit c_2 hf
      refine zt c_2.symm ?_
      refine lv_tableIn (tgt := 56) hx hb dX8_count_1 (by decide) (by decide) rfl (by decide) ?_
      refine lv_aload_n hx hb dX8_count_56 rfl (lv_at hl 0 rfl) ?_
      refine va_get (D := D) (ci := 8) (v := .ref (hM 31)) (C := RX8) (T := TX8) (N := 14) hx hb hts hi8 hown hK hP 0 rfl rfl 12 (Nat.le_of_ble_eq_true rfl) (hts _ (List.mem_cons_of_mem _ wd_355)) (fun _ h9 => h9) rfl dX8_count_57 ?_
      refine va_get (D := D) (ci := 5) (v := .int (M 42 0)) (C := RX5) (T := TX5) (N := 12) hx hb hts hi5 hown hK hP 6 rfl rfl 7 (Nat.le_of_ble_eq_true rfl) (hts _ (List.mem_cons_of_mem _ wd_196)) (fun _ h9 => h9) rfl dX8_count_60 ?_
      cases hf
      exact zretI hx hb hr hlocks hK hP hD hS dX8_count_63
    · replace hf := zif c_2 hf
      by_cases c_3 : a1 = 2
      · replace hf := zit c_3 hf
        refine zt c_3.symm ?_
        refine lv_tableIn (tgt := 64) hx hb dX8_count_1 (by decide) (by decide) rfl (by decide) ?_
        refine lv_aload_n hx hb dX8_count_64 rfl (lv_at hl 0 rfl) ?_
        refine va_get (D := D) (ci := 8) (v := .ref (hM 31)) (C := RX8) (T := TX8) (N := 14) hx hb hts hi8 hown hK hP 0 rfl rfl 12 (Nat.le_of_ble_eq_true rfl) (hts _ (List.mem_cons_of_mem _ wd_355)) (fun _ h9 => h9) rfl dX8_count_65 ?_
        refine va_get (D := D) (ci := 5) (v := .int (M 43 0)) (C := RX5) (T := TX5) (N := 12) hx hb hts hi5 hown hK hP 6 rfl rfl 8 (Nat.le_of_ble_eq_true rfl) (hts _ (List.mem_cons_of_mem _ wd_199)) (fun _ h9 => h9) rfl dX8_count_68 ?_
        cases hf
        exact zretI hx hb hr hlocks hK hP hD hS dX8_count_71
      · replace hf := zif c_3 hf
        by_cases c_4 : a1 = 3
        · replace hf := zit c_4 hf
          refine zt c_4.symm ?_
          refine lv_tableIn (tgt := 72) hx hb dX8_count_1 (by decide) (by decide) rfl (by decide) ?_
          refine lv_aload_n hx hb dX8_count_72 rfl (lv_at hl 0 rfl) ?_
          refine va_get (D := D) (ci := 8) (v := .ref (hM 13)) (C := RX8) (T := TX8) (N := 14) hx hb hts hi8 hown hK hP 0 rfl rfl 4 (Nat.le_of_ble_eq_true rfl) (hts _ (List.mem_cons_of_mem _ wd_347)) (fun _ h9 => h9) rfl dX8_count_73 ?_
          refine va_get (D := D) (ci := 6) (v := .int (M 18 0)) (C := RX6) (T := TX6) (N := 4) hx hb hts hi6 hown hK hP 4 rfl rfl 3 (Nat.le_of_ble_eq_true rfl) (hts _ (List.mem_cons_of_mem _ wd_99)) (fun _ h9 => h9) rfl dX8_count_76 ?_
          cases hf
          exact zretI hx hb hr hlocks hK hP hD hS dX8_count_79
        · replace hf := zif c_4 hf
          by_cases c_5 : a1 = 4
          · replace hf := zit c_5 hf
            refine zt c_5.symm ?_
            refine lv_tableIn (tgt := 80) hx hb dX8_count_1 (by decide) (by decide) rfl (by decide) ?_
            refine lv_aload_n hx hb dX8_count_80 rfl (lv_at hl 0 rfl) ?_
            refine va_get (D := D) (ci := 8) (v := .ref (hM 17)) (C := RX8) (T := TX8) (N := 14) hx hb hts hi8 hown hK hP 0 rfl rfl 5 (Nat.le_of_ble_eq_true rfl) (hts _ (List.mem_cons_of_mem _ wd_348)) (fun _ h9 => h9) rfl dX8_count_81 ?_
            refine va_get (D := D) (ci := 4) (v := .int (M 21 0)) (C := RX4) (T := TX4) (N := 3) hx hb hts hi4 hown hK hP 5 rfl rfl 2 (Nat.le_of_ble_eq_true rfl) (hts _ (List.mem_cons_of_mem _ wd_119)) (fun _ h9 => h9) rfl dX8_count_84 ?_
            cases hf
            exact zretI hx hb hr hlocks hK hP hD hS dX8_count_87
          · replace hf := zif c_5 hf
            by_cases c_6 : a1 = 5
            · replace hf := zit c_6 hf
              refine zt c_6.symm ?_
              refine lv_tableIn (tgt := 88) hx hb dX8_count_1 (by decide) (by decide) rfl (by decide) ?_
              refine lv_aload_n hx hb dX8_count_88 rfl (lv_at hl 0 rfl) ?_
              refine va_get (D := D) (ci := 8) (v := .ref (hM 7)) (C := RX8) (T := TX8) (N := 14) hx hb hts hi8 hown hK hP 0 rfl rfl 2 (Nat.le_of_ble_eq_true rfl) (hts _ (List.mem_cons_of_mem _ wd_345)) (fun _ h9 => h9) rfl dX8_count_89 ?_
              refine va_get (D := D) (ci := 2) (v := .int (M 8 0)) (C := RX2) (T := TX2) (N := 5) hx hb hts hi2 hown hK hP 2 rfl rfl 3 (Nat.le_of_ble_eq_true rfl) (hts _ (List.mem_cons_of_mem _ wd_76)) (fun _ h9 => h9) rfl dX8_count_92 ?_
              cases hf
              exact zretI hx hb hr hlocks hK hP hD hS dX8_count_95
            · replace hf := zif c_6 hf
              by_cases c_7 : a1 = 6
              · replace hf := zit c_7 hf
                refine zt c_7.symm ?_
                refine lv_tableIn (tgt := 96) hx hb dX8_count_1 (by decide) (by decide) rfl (by decide) ?_
                refine lv_aload_n hx hb dX8_count_96 rfl (lv_at hl 0 rfl) ?_
                refine va_get (D := D) (ci := 8) (v := .ref (hM 10)) (C := RX8) (T := TX8) (N := 14) hx hb hts hi8 hown hK hP 0 rfl rfl 3 (Nat.le_of_ble_eq_true rfl) (hts _ (List.mem_cons_of_mem _ wd_346)) (fun _ h9 => h9) rfl dX8_count_97 ?_
                refine va_get (D := D) (ci := 2) (v := .int (M 13 0)) (C := RX2) (T := TX2) (N := 5) hx hb hts hi2 hown hK hP 3 rfl rfl 3 (Nat.le_of_ble_eq_true rfl) (hts _ (List.mem_cons_of_mem _ wd_76)) (fun _ h9 => h9) rfl dX8_count_100 ?_
                cases hf
                exact zretI hx hb hr hlocks hK hP hD hS dX8_count_103
              · replace hf := zif c_7 hf
                by_cases c_8 : a1 = 7
                · replace hf := zit c_8 hf
                  refine zt c_8.symm ?_
                  refine lv_tableIn (tgt := 104) hx hb dX8_count_1 (by decide) (by decide) rfl (by decide) ?_
                  refine lv_aload_n hx hb dX8_count_104 rfl (lv_at hl 0 rfl) ?_
                  refine va_get (D := D) (ci := 8) (v := .ref (hM 1)) (C := RX8) (T := TX8) (N := 14) hx hb hts hi8 hown hK hP 0 rfl rfl 0 (Nat.le_of_ble_eq_true rfl) (hts _ (List.mem_cons_of_mem _ wd_343)) (fun _ h9 => h9) rfl dX8_count_105 ?_
                  refine va_get (D := D) (ci := 7) (v := .int (M 2 0)) (C := RX7) (T := TX7) (N := 3) hx hb hts hi7 hown hK hP 1 rfl rfl 2 (Nat.le_of_ble_eq_true rfl) (hts _ (List.mem_cons_of_mem _ wd_33)) (fun _ h9 => h9) rfl dX8_count_108 ?_
                  cases hf
                  exact zretI hx hb hr hlocks hK hP hD hS dX8_count_111
                · replace hf := zif c_8 hf
                  refine lv_tableOut (tgt := 112) hx hb dX8_count_1 (zsw_out (lo := 0) (hi := 7) (by decide) (fun k h1 h2 => by rcases (show k = 0 ∨ k = 1 ∨ k = 2 ∨ k = 3 ∨ k = 4 ∨ k = 5 ∨ k = 6 ∨ k = 7 by omega) with rfl | rfl | rfl | rfl | rfl | rfl | rfl | rfl <;> assumption)) (by decide) ?_
                  refine lv_iconst (v := (-1)) hx hb dX8_count_112 (by decide) ?_
                  cases hf
                  exact zretI hx hb hr hlocks hK hP hD hS dX8_count_113
