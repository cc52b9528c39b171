def f_X3_isPlaced (M : zMm) (a1 : Int32) : Option (Int32) := if (((M 5 0) >>> (a1 &&& 31)) &&& 1) = 1 then some (1 : Int32) else some (0 : Int32)
abbrev ww_X3_isPlaced : List Cond := Cond.code yX3_isPlaced cX3_isPlaced 2 (some .boolean) :: wG
theorem q_X3_isPlaced : yX3_isPlaced.cls = RX3 ∧ yX3_isPlaced.cls ≠ "java/lang/invoke/MethodHandle" ∧ yX3_isPlaced.cls ≠ "java/lang/invoke/VarHandle" ∧ (parseMethodDescriptor yX3_isPlaced.desc).map (fun d => d.parameters.length) = some 1 := by decide +kernel
set_option maxHeartbeats 4000000 in
set_option maxRecDepth 100000 in
theorem c_X3_isPlaced (l : Launch) (D : va_G) (cI cB : ClassId) (hM : Nat → Nat) (M : zMm) (a1 : Int32) (r0 : Int32) (hf : f_X3_isPlaced M a1 = some r0) : zMi l yX3_isPlaced ww_X3_isPlaced ({ frames := 0, cells := 0, slots := 0, locals := 0 } : Room) D cI cB [.ref (hM 0), .int a1] [k3_0 cI cB hM M] r0 [k3_0 cI cB hM M] := by
  refine zofI (cc := cX3_isPlaced) (maxL := 2) (ret := (some .boolean)) (by decide +kernel) rfl (Nat.le_of_ble_eq_true rfl) ?_
  intro p e s m below meth c A ls hx hb hml hr hown hts hlocks hK hP hD hS hA hl
  have hl : lv_has ls 2 [(0, .ref (hM 0)), (1, .int a1)] := hl
  have hown : s.vm.findClass RX3 = some m.cls := hown
  have hG : ∀ w ∈ wG, w ∈ ww_X3_isPlaced := fun w h => List.mem_cons_of_mem _ h
  have hi3 : ∀ w ∈ wsX30, w ∈ ww_X3_isPlaced := fun w h => List.mem_cons_of_mem _ (z_inX3 w h)
  unfold f_X3_isPlaced at hf
  refine lv_aload_n hx hb dX3_isPlaced_0 rfl (lv_at hl 0 rfl) ?_
  refine va_get (D := D) (ci := 3) (v := .int (M 5 0)) (C := RX3) (T := TX3) (N := 6) hx hb hts hi3 hown hK hP 0 rfl rfl 5 (Nat.le_of_ble_eq_true rfl) (hts _ (List.mem_cons_of_mem _ wd_141)) (fun _ h9 => h9) rfl dX3_isPlaced_1 ?_
  refine lv_iload_n hx hb dX3_isPlaced_4 rfl (lv_at hl 1 rfl) ?_
  refine lv_ishr hx hb dX3_isPlaced_5 ?_
  refine lv_iconst (v := 1) hx hb dX3_isPlaced_6 (by decide) ?_
  refine lv_iand hx hb dX3_isPlaced_7 ?_
  refine lv_iconst (v := 1) hx hb dX3_isPlaced_8 (by decide) ?_
  refine lv_icmp_ne (tgt := 16) hx hb dX3_isPlaced_9 (by decide) (fun c_1 => ?_) (fun c_1 => ?_)
  · replace hf := zif c_1 hf
    refine lv_iconst (v := 0) hx hb dX3_isPlaced_16 (by decide) ?_
    cases hf
    exact zretB hx hb hr hlocks rfl hK hP hD hS dX3_isPlaced_17
  · replace hf := zit c_1 hf
    refine lv_iconst (v := 1) hx hb dX3_isPlaced_12 (by decide) ?_
    refine lv_goto (tgt := 17) hx hb dX3_isPlaced_13 (by decide) ?_
    cases hf
    exact zretB hx hb hr hlocks rfl hK hP hD hS dX3_isPlaced_17
def L_X3_gapsWithPlaced_5 (M : zMm) (P1 : zMm) (l2 : Int32) : Nat → Int32 → Int32 → Option (Int32 × Int32)
  | 0, _, _ => none
  | n + 1, l3, l4 => if (P1 8 0) ≤ l4 then some (l3, l4) else zl 10 (P1 4) l4 (fun v2 => zl 10 (P1 5) l4 (fun v3 => zb1 (if v2 = l2 then zb1 (f_X3_isPlaced M v3) (fun (r15 : Int32) => if r15 = 0 then if v3 = l2 then zb1 (f_X3_isPlaced M v2) (fun (r22 : Int32) => if r22 = 0 then some l3 else zb1 (f_X5_gapOf P1 (fun j => M (4 + j)) l4) (fun (r25 : Int32) => zv (l3 + r25) (fun (x27 : Int32) => some x27))) else some l3 else zb1 (f_X5_gapOf P1 (fun j => M (4 + j)) l4) (fun (r18 : Int32) => zv (l3 + r18) (fun (x20 : Int32) => some x20))) else if v3 = l2 then zb1 (f_X3_isPlaced M v2) (fun (r9 : Int32) => if r9 = 0 then some l3 else zb1 (f_X5_gapOf P1 (fun j => M (4 + j)) l4) (fun (r12 : Int32) => zv (l3 + r12) (fun (x14 : Int32) => some x14))) else some l3) (fun (x5 : Int32) => zv (l4 + 1) (fun (x28 : Int32) => L_X3_gapsWithPlaced_5 M P1 l2 n x5 x28))))
def f_X3_gapsWithPlaced (M : zMm) (P1 : zMm) (a2 : Int32) : Option (Int32) := zb2 (L_X3_gapsWithPlaced_5 M P1 a2 100000 0 0) (fun (x29 : Int32) (x30 : Int32) => some x29)
abbrev ww_X3_gapsWithPlaced : List Cond := Cond.code yX3_gapsWithPlaced cX3_gapsWithPlaced 7 (some .int) :: wG
theorem q_X3_gapsWithPlaced : yX3_gapsWithPlaced.cls = RX3 ∧ yX3_gapsWithPlaced.cls ≠ "java/lang/invoke/MethodHandle" ∧ yX3_gapsWithPlaced.cls ≠ "java/lang/invoke/VarHandle" ∧ (parseMethodDescriptor yX3_gapsWithPlaced.desc).map (fun d => d.parameters.length) = some 2 := by decide +kernel
set_option maxHeartbeats 4000000 in
set_option maxRecDepth 100000 in
theorem c_X3_gapsWithPlaced (l : Launch) (D : va_G) (cI cB : ClassId) (hM : Nat → Nat) (hP1 : Nat → Nat) (M : zMm) (P1 : zMm) (a2 : Int32) (r0 : Int32) (hf : f_X3_gapsWithPlaced M P1 a2 = some r0) : zMi l yX3_gapsWithPlaced ww_X3_gapsWithPlaced ({ frames := 2, cells := 0, slots := 0, locals := 43 } : Room) D cI cB [.ref (hM 0), .ref (hP1 0), .int a2] ([k3_0 cI cB hM M, k3_3 cI cB hM M] ++ [k5_0 cI cB hP1 P1, k5_5 cI cB hP1 P1, k5_6 cI cB hP1 P1]) r0 ([k3_0 cI cB hM M, k3_3 cI cB hM M] ++ [k5_0 cI cB hP1 P1, k5_5 cI cB hP1 P1, k5_6 cI cB hP1 P1]) := by
  refine zofI (cc := cX3_gapsWithPlaced) (maxL := 7) (ret := (some .int)) (by decide +kernel) rfl (Nat.le_of_ble_eq_true rfl) ?_
  intro p e s m below meth c A ls hx hb hml hr hown hts hlocks hK hP hD hS hA hl
  have hl : lv_has ls 7 [(0, .ref (hM 0)), (1, .ref (hP1 0)), (2, .int a2)] := hl
  have hown : s.vm.findClass RX3 = some m.cls := hown
  have hG : ∀ w ∈ wG, w ∈ ww_X3_gapsWithPlaced := fun w h => List.mem_cons_of_mem _ h
  have hi3 : ∀ w ∈ wsX30, w ∈ ww_X3_gapsWithPlaced := fun w h => List.mem_cons_of_mem _ (z_inX3 w h)
  have hi5 : ∀ w ∈ wsX50, w ∈ ww_X3_gapsWithPlaced := fun w h => List.mem_cons_of_mem _ (z_inX5 w h)
  have L5 : ∀ (M : zMm) (P1 : zMm) (l2 : Int32) (n : Nat) (l3 : Int32) (l4 : Int32) (o3 : Int32) (o4 : Int32), L_X3_gapsWithPlaced_5 M P1 l2 n l3 l4 = some (o3, o4) → zAt p l e ({ frames := 2, cells := 0, slots := 0, locals := 43 } : Room) s m [.ref (hM 0), .ref (hP1 0), .int a2].toArray below meth c (MQ below (zQi D cI cB r0 ([k3_0 cI cB hM M, k3_3 cI cB hM M] ++ [k5_0 cI cB hP1 P1, k5_5 cI cB hP1 P1, k5_6 cI cB hP1 P1]) A) [.ref (hM 0), .ref (hP1 0), .int a2].toArray s 0 0 A) A D 7 ([k3_0 cI cB hM M, k3_3 cI cB hM M] ++ [k5_0 cI cB hP1 P1, k5_5 cI cB hP1 P1, k5_6 cI cB hP1 P1]) [(0, .ref (hM 0)), (1, .ref (hP1 0)), (2, .int l2), (3, .int o3), (4, .int o4)] 81 [] → zAt p l e ({ frames := 2, cells := 0, slots := 0, locals := 43 } : Room) s m [.ref (hM 0), .ref (hP1 0), .int a2].toArray below meth c (MQ below (zQi D cI cB r0 ([k3_0 cI cB hM M, k3_3 cI cB hM M] ++ [k5_0 cI cB hP1 P1, k5_5 cI cB hP1 P1, k5_6 cI cB hP1 P1]) A) [.ref (hM 0), .ref (hP1 0), .int a2].toArray s 0 0 A) A D 7 ([k3_0 cI cB hM M, k3_3 cI cB hM M] ++ [k5_0 cI cB hP1 P1, k5_5 cI cB hP1 P1, k5_6 cI cB hP1 P1]) [(0, .ref (hM 0)), (1, .ref (hP1 0)), (2, .int l2), (3, .int l3), (4, .int l4)] 5 [] := by
    intro M P1 l2 n
    induction n with
    | zero => intro l3 l4 o3 o4 hf; simp [L_X3_gapsWithPlaced_5] at hf
    | succ n ih =>
      intro l3 l4 o3 o4 hf hk H locs ls hP hD hS hl
      rw [L_X3_gapsWithPlaced_5] at hf
      refine lv_iload hx hb dX3_gapsWithPlaced_5 (lv_at hl 4 rfl) ?_
      refine lv_aload_n hx hb dX3_gapsWithPlaced_7 rfl (lv_at hl 1 rfl) ?_
      refine va_get (D := D) (ci := 5) (v := .int (P1 8 0)) (C := RX5) (T := TX5) (N := 12) hx hb hts hi5 hown hK hP 2 rfl rfl 8 (Nat.le_of_ble_eq_true rfl) (hts _ (List.mem_cons_of_mem _ wd_198)) (fun _ h9 => h9) rfl dX3_gapsWithPlaced_8 ?_
      refine lv_icmp_ge (tgt := 81) hx hb dX3_gapsWithPlaced_11 (by decide) (fun c_1 => ?_) (fun c_1 => ?_)
      · replace hf := zit c_1 hf
        cases hf
        exact hk _ _ _ hP hD hS (lv_sub hl [0, 1, 2, 3, 4] rfl)
      · replace hf := zif c_1 hf
        refine lv_aload_n hx hb dX3_gapsWithPlaced_14 rfl (lv_at hl 1 rfl) ?_
        refine va_get (D := D) (ci := 5) (v := .ref (hP1 5)) (C := RX5) (T := TX5) (N := 12) hx hb hts hi5 hown hK hP 2 rfl rfl 4 (Nat.le_of_ble_eq_true rfl) (hts _ (List.mem_cons_of_mem _ wd_186)) (fun _ h9 => h9) rfl dX3_gapsWithPlaced_15 ?_
        refine lv_iload hx hb dX3_gapsWithPlaced_18 (lv_at hl 4 rfl) ?_
        obtain ⟨i_v2, v2, e_v2, hf⟩ := zl_some hf
        refine va_iald (n := 10) (f := P1 4) (cA := cI) hx hb hK hP 3 0 rfl rfl i_v2 dX3_gapsWithPlaced_20 ?_
        refine zt e_v2 ?_
        refine lv_istore (lv' := [(5, .int v2), (0, .ref (hM 0)), (1, .ref (hP1 0)), (2, .int l2), (3, .int l3), (4, .int l4)]) hx hb dX3_gapsWithPlaced_21 hl (by decide) rfl (fun ls hl => ?_)
        refine lv_aload_n hx hb dX3_gapsWithPlaced_23 rfl (lv_at hl 2 rfl) ?_
        refine va_get (D := D) (ci := 5) (v := .ref (hP1 6)) (C := RX5) (T := TX5) (N := 12) hx hb hts hi5 hown hK hP 2 rfl rfl 5 (Nat.le_of_ble_eq_true rfl) (hts _ (List.mem_cons_of_mem _ wd_189)) (fun _ h9 => h9) rfl dX3_gapsWithPlaced_24 ?_
        refine lv_iload hx hb dX3_gapsWithPlaced_27 (lv_at hl 5 rfl) ?_
        obtain ⟨i_v3, v3, e_v3, hf⟩ := zl_some hf
        refine va_iald (n := 10) (f := P1 5) (cA := cI) hx hb hK hP 4 0 rfl rfl i_v3 dX3_gapsWithPlaced_29 ?_
        refine zt e_v3 ?_
        refine lv_istore (lv' := [(6, .int v3), (5, .int v2), (0, .ref (hM 0)), (1, .ref (hP1 0)), (2, .int l2), (3, .int l3), (4, .int l4)]) hx hb dX3_gapsWithPlaced_30 hl (by decide) rfl (fun ls hl => ?_)
        refine lv_iload hx hb dX3_gapsWithPlaced_32 (lv_at hl 1 rfl) ?_
        refine lv_iload_n hx hb dX3_gapsWithPlaced_34 rfl (lv_at hl 4 rfl) ?_
        obtain ⟨x5, hq6, hf⟩ := zb1_some hf
        have J7 : zAt p l e ({ frames := 2, cells := 0, slots := 0, locals := 43 } : Room) s m [.ref (hM 0), .ref (hP1 0), .int a2].toArray below meth c (MQ below (zQi D cI cB r0 ([k3_0 cI cB hM M, k3_3 cI cB hM M] ++ [k5_0 cI cB hP1 P1, k5_5 cI cB hP1 P1, k5_6 cI cB hP1 P1]) A) [.ref (hM 0), .ref (hP1 0), .int a2].toArray s 0 0 A) A D 7 ([k3_0 cI cB hM M, k3_3 cI cB hM M] ++ [k5_0 cI cB hP1 P1, k5_5 cI cB hP1 P1, k5_6 cI cB hP1 P1]) [(0, .ref (hM 0)), (1, .ref (hP1 0)), (2, .int l2), (3, .int x5), (4, .int l4), (5, .int v2), (6, .int v3)] 75 [] := by
          intro H locs ls hP hD hS hl
          obtain ⟨x28, e_x28, hf⟩ := zv_some hf
          refine lv_iinc (v := x28) (lv' := [(4, .int x28), (0, .ref (hM 0)), (1, .ref (hP1 0)), (2, .int l2), (3, .int x5), (5, .int v2), (6, .int v3)]) hx hb dX3_gapsWithPlaced_75 hl (k := 4) rfl (by rw [e_x28]; rfl) (by decide) rfl (fun ls hl => ?_)
          refine lv_goto (tgt := 5) hx hb dX3_gapsWithPlaced_78 (by decide) ?_
          exact ih _ _ _ _ hf hk _ _ _ hP hD hS (lv_sub hl [1, 2, 3, 4, 0] rfl)
        replace hf := hq6
        refine lv_icmp_ne (tgt := 47) hx hb dX3_gapsWithPlaced_35 (by decide) (fun c_4 => ?_) (fun c_4 => ?_)
        · replace hf := zif c_4 hf
          refine lv_iload hx hb dX3_gapsWithPlaced_47 (lv_at hl 0 rfl) ?_
          refine lv_iload_n hx hb dX3_gapsWithPlaced_49 rfl (lv_at hl 4 rfl) ?_
          refine lv_icmp_ne (tgt := 75) hx hb dX3_gapsWithPlaced_50 (by decide) (fun c_8 => ?_) (fun c_8 => ?_)
          · replace hf := zif c_8 hf
            cases hf
            exact J7 _ _ _ hP hD hS (lv_sub hl [2, 3, 4, 5, 6, 1, 0] rfl)
          · replace hf := zit c_8 hf
            refine lv_aload_n hx hb dX3_gapsWithPlaced_53 rfl (lv_at hl 2 rfl) ?_
            refine lv_iload hx hb dX3_gapsWithPlaced_54 (lv_at hl 1 rfl) ?_
            obtain ⟨r9, hq10, hf⟩ := zb1_some hf
            refine zcallVi (ws2 := ([k3_0 cI cB hM M, k3_3 cI cB hM M] ++ [k5_0 cI cB hP1 P1, k5_5 cI cB hP1 P1, k5_6 cI cB hP1 P1])) (rest := []) ⟨hx, hb, hml, hown, hts⟩ (c_X3_isPlaced l D cI cB hM M v2 r9 hq10) (cwV 1 hts (z_gV hG wd_511 wd_513 wd_s13 wd_8 wd_514) rfl rfl rfl q_X3_isPlaced ⟨Nat.le_of_ble_eq_true rfl, Nat.le_of_ble_eq_true rfl⟩) hK hP hD hS hA 3 rfl rfl rfl [0] [1, 2, 3, 4] rfl rfl rfl rfl rfl rfl rfl hl.1 (Nat.le_of_ble_eq_true rfl) dX3_gapsWithPlaced_56 ⟨Nat.zero_le _, Nat.zero_le _⟩ rfl (fun H locs hP hD hS => ?_)
            refine lv_if_eq (tgt := 75) hx hb dX3_gapsWithPlaced_59 (by decide) (fun c_11 => ?_) (fun c_11 => ?_)
            · replace hf := zit c_11 hf
              cases hf
              exact J7 _ _ _ hP hD hS (lv_sub hl [2, 3, 4, 5, 6, 1, 0] rfl)
            · replace hf := zif c_11 hf
              refine lv_iload_n hx hb dX3_gapsWithPlaced_62 rfl (lv_at hl 5 rfl) ?_
              refine lv_aload_n hx hb dX3_gapsWithPlaced_63 rfl (lv_at hl 3 rfl) ?_
              refine lv_iload hx hb dX3_gapsWithPlaced_64 (lv_at hl 6 rfl) ?_
              refine lv_aload_n hx hb dX3_gapsWithPlaced_66 rfl (lv_at hl 2 rfl) ?_
              refine va_get (D := D) (ci := 3) (v := .ref (hM 3)) (C := RX3) (T := TX3) (N := 6) hx hb hts hi3 hown hK hP 0 rfl rfl 4 (Nat.le_of_ble_eq_true rfl) (hts _ (List.mem_cons_of_mem _ wd_140)) (fun _ h9 => h9) rfl dX3_gapsWithPlaced_67 ?_
              obtain ⟨r12, hq13, hf⟩ := zb1_some hf
              refine zcallVi (ws2 := ([k3_0 cI cB hM M, k3_3 cI cB hM M] ++ [k5_0 cI cB hP1 P1, k5_5 cI cB hP1 P1, k5_6 cI cB hP1 P1])) (rest := [.int l3]) ⟨hx, hb, hml, hown, hts⟩ (c_X5_gapOf l D cI cB hP1 (fun j => hM (3 + j)) P1 (fun j => M (4 + j)) l4 r12 hq13) (cwV 2 hts (z_gV hG wd_525 wd_459 wd_460 wd_10 wd_461) rfl rfl rfl q_X5_gapOf ⟨Nat.le_of_ble_eq_true rfl, Nat.le_of_ble_eq_true rfl⟩) hK hP hD hS hA 5 rfl rfl rfl [2, 3, 4, 1] [0] rfl rfl rfl rfl rfl rfl rfl hl.1 (Nat.le_of_ble_eq_true rfl) dX3_gapsWithPlaced_70 ⟨Nat.zero_le _, Nat.zero_le _⟩ rfl (fun H locs hP hD hS => ?_)
              refine lv_iadd hx hb dX3_gapsWithPlaced_73 ?_
              obtain ⟨x14, e_x14, hf⟩ := zv_some hf
              refine zt e_x14 ?_
              refine lv_istore_n (lv' := [(3, .int x14), (6, .int v3), (5, .int v2), (0, .ref (hM 0)), (1, .ref (hP1 0)), (2, .int l2), (4, .int l4)]) hx hb dX3_gapsWithPlaced_74 rfl hl (by decide) rfl (fun ls hl => ?_)
              cases hf
              exact J7 _ _ _ hP hD hS (lv_sub hl [3, 4, 5, 0, 6, 2, 1] rfl)
        · replace hf := zit c_4 hf
          refine lv_aload_n hx hb dX3_gapsWithPlaced_38 rfl (lv_at hl 2 rfl) ?_
          refine lv_iload hx hb dX3_gapsWithPlaced_39 (lv_at hl 0 rfl) ?_
          obtain ⟨r15, hq16, hf⟩ := zb1_some hf
          refine zcallVi (ws2 := ([k3_0 cI cB hM M, k3_3 cI cB hM M] ++ [k5_0 cI cB hP1 P1, k5_5 cI cB hP1 P1, k5_6 cI cB hP1 P1])) (rest := []) ⟨hx, hb, hml, hown, hts⟩ (c_X3_isPlaced l D cI cB hM M v3 r15 hq16) (cwV 1 hts (z_gV hG wd_511 wd_513 wd_s13 wd_8 wd_514) rfl rfl rfl q_X3_isPlaced ⟨Nat.le_of_ble_eq_true rfl, Nat.le_of_ble_eq_true rfl⟩) hK hP hD hS hA 3 rfl rfl rfl [0] [1, 2, 3, 4] rfl rfl rfl rfl rfl rfl rfl hl.1 (Nat.le_of_ble_eq_true rfl) dX3_gapsWithPlaced_41 ⟨Nat.zero_le _, Nat.zero_le _⟩ rfl (fun H locs hP hD hS => ?_)
          refine lv_if_ne (tgt := 62) hx hb dX3_gapsWithPlaced_44 (by decide) (fun c_17 => ?_) (fun c_17 => ?_)
          · replace hf := zif c_17 hf
            refine lv_iload_n hx hb dX3_gapsWithPlaced_62 rfl (lv_at hl 5 rfl) ?_
            refine lv_aload_n hx hb dX3_gapsWithPlaced_63 rfl (lv_at hl 3 rfl) ?_
            refine lv_iload hx hb dX3_gapsWithPlaced_64 (lv_at hl 6 rfl) ?_
            refine lv_aload_n hx hb dX3_gapsWithPlaced_66 rfl (lv_at hl 2 rfl) ?_
            refine va_get (D := D) (ci := 3) (v := .ref (hM 3)) (C := RX3) (T := TX3) (N := 6) hx hb hts hi3 hown hK hP 0 rfl rfl 4 (Nat.le_of_ble_eq_true rfl) (hts _ (List.mem_cons_of_mem _ wd_140)) (fun _ h9 => h9) rfl dX3_gapsWithPlaced_67 ?_
            obtain ⟨r18, hq19, hf⟩ := zb1_some hf
            refine zcallVi (ws2 := ([k3_0 cI cB hM M, k3_3 cI cB hM M] ++ [k5_0 cI cB hP1 P1, k5_5 cI cB hP1 P1, k5_6 cI cB hP1 P1])) (rest := [.int l3]) ⟨hx, hb, hml, hown, hts⟩ (c_X5_gapOf l D cI cB hP1 (fun j => hM (3 + j)) P1 (fun j => M (4 + j)) l4 r18 hq19) (cwV 2 hts (z_gV hG wd_525 wd_459 wd_460 wd_10 wd_461) rfl rfl rfl q_X5_gapOf ⟨Nat.le_of_ble_eq_true rfl, Nat.le_of_ble_eq_true rfl⟩) hK hP hD hS hA 5 rfl rfl rfl [2, 3, 4, 1] [0] rfl rfl rfl rfl rfl rfl rfl hl.1 (Nat.le_of_ble_eq_true rfl) dX3_gapsWithPlaced_70 ⟨Nat.zero_le _, Nat.zero_le _⟩ rfl (fun H locs hP hD hS => ?_)
            refine lv_iadd hx hb dX3_gapsWithPlaced_73 ?_
            obtain ⟨x20, e_x20, hf⟩ := zv_some hf
            refine zt e_x20 ?_
            refine lv_istore_n (lv' := [(3, .int x20), (6, .int v3), (5, .int v2), (0, .ref (hM 0)), (1, .ref (hP1 0)), (2, .int l2), (4, .int l4)]) hx hb dX3_gapsWithPlaced_74 rfl hl (by decide) rfl (fun ls hl => ?_)
            cases hf
            exact J7 _ _ _ hP hD hS (lv_sub hl [3, 4, 5, 0, 6, 2, 1] rfl)
          · replace hf := zit c_17 hf
            refine lv_iload hx hb dX3_gapsWithPlaced_47 (lv_at hl 0 rfl) ?_
            refine lv_iload_n hx hb dX3_gapsWithPlaced_49 rfl (lv_at hl 4 rfl) ?_
            refine lv_icmp_ne (tgt := 75) hx hb dX3_gapsWithPlaced_50 (by decide) (fun c_21 => ?_) (fun c_21 => ?_)
            · replace hf := zif c_21 hf
              cases hf
              exact J7 _ _ _ hP hD hS (lv_sub hl [2, 3, 4, 5, 6, 1, 0] rfl)
            · replace hf := zit c_21 hf
              refine lv_aload_n hx hb dX3_gapsWithPlaced_53 rfl (lv_at hl 2 rfl) ?_
              refine lv_iload hx hb dX3_gapsWithPlaced_54 (lv_at hl 1 rfl) ?_
              obtain ⟨r22, hq23, hf⟩ := zb1_some hf
              refine zcallVi (ws2 := ([k3_0 cI cB hM M, k3_3 cI cB hM M] ++ [k5_0 cI cB hP1 P1, k5_5 cI cB hP1 P1, k5_6 cI cB hP1 P1])) (rest := []) ⟨hx, hb, hml, hown, hts⟩ (c_X3_isPlaced l D cI cB hM M v2 r22 hq23) (cwV 1 hts (z_gV hG wd_511 wd_513 wd_s13 wd_8 wd_514) rfl rfl rfl q_X3_isPlaced ⟨Nat.le_of_ble_eq_true rfl, Nat.le_of_ble_eq_true rfl⟩) hK hP hD hS hA 3 rfl rfl rfl [0] [1, 2, 3, 4] rfl rfl rfl rfl rfl rfl rfl hl.1 (Nat.le_of_ble_eq_true rfl) dX3_gapsWithPlaced_56 ⟨Nat.zero_le _, Nat.zero_le _⟩ rfl (fun H locs hP hD hS => ?_)
              refine lv_if_eq (tgt := 75) hx hb dX3_gapsWithPlaced_59 (by decide) (fun c_24 => ?_) (fun c_24 => ?_)
              · replace hf := zit c_24 hf
                cases hf
                exact J7 _ _ _ hP hD hS (lv_sub hl [2, 3, 4, 5, 6, 1, 0] rfl)
              · replace hf := zif c_24 hf
                refine lv_iload_n hx hb dX3_gapsWithPlaced_62 rfl (lv_at hl 5 rfl) ?_
                refine lv_aload_n hx hb dX3_gapsWithPlaced_63 rfl (lv_at hl 3 rfl) ?_
                refine lv_iload hx hb dX3_gapsWithPlaced_64 (lv_at hl 6 rfl) ?_
                refine lv_aload_n hx hb dX3_gapsWithPlaced_66 rfl (lv_at hl 2 rfl) ?_
                refine va_get (D := D) (ci := 3) (v := .ref (hM 3)) (C := RX3) (T := TX3) (N := 6) hx hb hts hi3 hown hK hP 0 rfl rfl 4 (Nat.le_of_ble_eq_true rfl) (hts _ (List.mem_cons_of_mem _ wd_140)) (fun _ h9 => h9) rfl dX3_gapsWithPlaced_67 ?_
                obtain ⟨r25, hq26, hf⟩ := zb1_some hf
                refine zcallVi (ws2 := ([k3_0 cI cB hM M, k3_3 cI cB hM M] ++ [k5_0 cI cB hP1 P1, k5_5 cI cB hP1 P1, k5_6 cI cB hP1 P1])) (rest := [.int l3]) ⟨hx, hb, hml, hown, hts⟩ (c_X5_gapOf l D cI cB hP1 (fun j => hM (3 + j)) P1 (fun j => M (4 + j)) l4 r25 hq26) (cwV 2 hts (z_gV hG wd_525 wd_459 wd_460 wd_10 wd_461) rfl rfl rfl q_X5_gapOf ⟨Nat.le_of_ble_eq_true rfl, Nat.le_of_ble_eq_true rfl⟩) hK hP hD hS hA 5 rfl rfl rfl [2, 3, 4, 1] [0] rfl rfl rfl rfl rfl rfl rfl hl.1 (Nat.le_of_ble_eq_true rfl) dX3_gapsWithPlaced_70 ⟨Nat.zero_le _, Nat.zero_le _⟩ rfl (fun H locs hP hD hS => ?_)
                refine lv_iadd hx hb dX3_gapsWithPlaced_73 ?_
                obtain ⟨x27, e_x27, hf⟩ := zv_some hf
                refine zt e_x27 ?_
                refine lv_istore_n (lv' := [(3, .int x27), (6, .int v3), (5, .int v2), (0, .ref (hM 0)), (1, .ref (hP1 0)), (2, .int l2), (4, .int l4)]) hx hb dX3_gapsWithPlaced_74 rfl hl (by decide) rfl (fun ls hl => ?_)
                cases hf
                exact J7 _ _ _ hP hD hS (lv_sub hl [3, 4, 5, 0, 6, 2, 1] rfl)
  unfold f_X3_gapsWithPlaced at hf
  refine lv_iconst (v := 0) hx hb dX3_gapsWithPlaced_0 (by decide) ?_
  refine lv_istore_n (lv' := [(3, .int 0), (0, .ref (hM 0)), (1, .ref (hP1 0)), (2, .int a2)]) hx hb dX3_gapsWithPlaced_1 rfl hl (by decide) rfl (fun ls hl => ?_)
  refine lv_iconst (v := 0) hx hb dX3_gapsWithPlaced_2 (by decide) ?_
  refine lv_istore (lv' := [(4, .int 0), (3, .int 0), (0, .ref (hM 0)), (1, .ref (hP1 0)), (2, .int a2)]) hx hb dX3_gapsWithPlaced_3 hl (by decide) rfl (fun ls hl => ?_)
  obtain ⟨x29, x30, hq31, hf⟩ := zb2_some hf
  refine L5 _ _ _ _ _ _ _ _ hq31 ?_ _ _ _ hP hD hS (lv_sub hl [2, 3, 4, 1, 0] rfl)
  intro H locs ls hP hD hS hl
  refine lv_iload_n hx hb dX3_gapsWithPlaced_81 rfl (lv_at hl 3 rfl) ?_
  cases hf
  exact zretI hx hb hr hlocks hK hP hD hS dX3_gapsWithPlaced_82
abbrev ww_X3_tryPlace : List Cond := Cond.code yX3_tryPlace cX3_tryPlace 5 none :: wG
theorem q_X3_tryPlace : yX3_tryPlace.cls = RX3 ∧ yX3_tryPlace.cls ≠ "java/lang/invoke/MethodHandle" ∧ yX3_tryPlace.cls ≠ "java/lang/invoke/VarHandle" ∧ (parseMethodDescriptor yX3_tryPlace.desc).map (fun d => d.parameters.length) = some 3 := by decide +kernel
def f_X3_tryPart (rec : zMm → zMm → Int32 → Int32 → Option (zMm)) (M : zMm) (P1 : zMm) (a2 : Int32) (a3 : Int32) (a4 : Int32) : Option (zMm) := zw 7 M 3 a3 a2 (fun M_1 => zb1 (f_X5_slip a2 a3 (P1 10 0)) (fun (r2 : Int32) => zb1 (f_X5_cutLength P1 a2 r2) (fun (r4 : Int32) => zw 7 M_1 4 a2 r4 (fun M_6 => zb1 (f_X3_gapsWithPlaced M_6 P1 a2) (fun (r7 : Int32) => zv (a4 + r7) (fun (x9 : Int32) => if (M_6 2 0) ≤ x9 then some M_6 else zv (zs M_6 5 (fun _ => (M_6 5 0) ||| ((1 : Int32) <<< (a2 &&& 31)))) (fun (M_11 : zMm) => zb1 (rec M_11 P1 (a3 + 1) x9) (fun (M_12 : zMm) => zv (zs M_12 5 (fun _ => (M_12 5 0) &&& (((1 : Int32) <<< (a2 &&& 31)) ^^^ (-1)))) (fun (M_14 : zMm) => some M_14)))))))))
abbrev ww_X3_tryPart : List Cond := Cond.code yX3_tryPart cX3_tryPart 6 none :: wG
theorem q_X3_tryPart : yX3_tryPart.cls = RX3 ∧ yX3_tryPart.cls ≠ "java/lang/invoke/MethodHandle" ∧ yX3_tryPart.cls ≠ "java/lang/invoke/VarHandle" ∧ (parseMethodDescriptor yX3_tryPart.desc).map (fun d => d.parameters.length) = some 4 := by decide +kernel
set_option maxHeartbeats 4000000 in
set_option maxRecDepth 100000 in
theorem c_X3_tryPart (l : Launch) (D : va_G) (cI cB : ClassId) (dd : Nat) (rec : zMm → zMm → Int32 → Int32 → Option (zMm)) (hrec : ∀ (hM hP1 : Nat → Nat) (M P1 : zMm) (a2 a3 : Int32) (M0 : zMm), rec M P1 a2 a3 = some M0 → zMv l yX3_tryPlace ww_X3_tryPlace ({ frames := 2 * dd + 4, cells := 0, slots := 0, locals := 60 * dd + 120 } : Room) D cI cB [.ref (hM 0), .ref (hP1 0), .int a2, .int a3] (w3 cI cB hM M ++ [k5_0 cI cB hP1 P1, k5_1 cI cB hP1 P1, k5_2 cI cB hP1 P1, k5_3 cI cB hP1 P1, k5_5 cI cB hP1 P1, k5_6 cI cB hP1 P1]) (w3 cI cB hM M0 ++ [k5_0 cI cB hP1 P1, k5_1 cI cB hP1 P1, k5_2 cI cB hP1 P1, k5_3 cI cB hP1 P1, k5_5 cI cB hP1 P1, k5_6 cI cB hP1 P1])) (hM : Nat → Nat) (hP1 : Nat → Nat) (M : zMm) (P1 : zMm) (a2 : Int32) (a3 : Int32) (a4 : Int32) (M0 : zMm) (hf : f_X3_tryPart rec M P1 a2 a3 a4 = some M0) : zMv l yX3_tryPart ww_X3_tryPart ({ frames := 2 * dd + 5, cells := 0, slots := 0, locals := 60 * dd + 150 } : Room) D cI cB [.ref (hM 0), .ref (hP1 0), .int a2, .int a3, .int a4] (w3 cI cB hM M ++ [k5_0 cI cB hP1 P1, k5_1 cI cB hP1 P1, k5_2 cI cB hP1 P1, k5_3 cI cB hP1 P1, k5_5 cI cB hP1 P1, k5_6 cI cB hP1 P1]) (w3 cI cB hM M0 ++ [k5_0 cI cB hP1 P1, k5_1 cI cB hP1 P1, k5_2 cI cB hP1 P1, k5_3 cI cB hP1 P1, k5_5 cI cB hP1 P1, k5_6 cI cB hP1 P1]) := by
  refine zofV (cc := cX3_tryPart) (maxL := 6) (ret := none) (by decide +kernel) rfl (Nat.le_of_ble_eq_true rfl) ?_
  intro p e s m below meth c A ls hx hb hml hr hown hts hlocks hK hP hD hS hA hl
  have hl : lv_has ls 6 [(0, .ref (hM 0)), (1, .ref (hP1 0)), (2, .int a2), (3, .int a3), (4, .int a4)] := hl
  have hown : s.vm.findClass RX3 = some m.cls := hown
  have hG : ∀ w ∈ wG, w ∈ ww_X3_tryPart := fun w h => List.mem_cons_of_mem _ h
  have hi3 : ∀ w ∈ wsX30, w ∈ ww_X3_tryPart := fun w h => List.mem_cons_of_mem _ (z_inX3 w h)
  have hi5 : ∀ w ∈ wsX50, w ∈ ww_X3_tryPart := fun w h => List.mem_cons_of_mem _ (z_inX5 w h)
  unfold f_X3_tryPart at hf
  refine lv_aload_n hx hb dX3_tryPart_0 rfl (lv_at hl 0 rfl) ?_
  refine va_get (D := D) (ci := 3) (v := .ref (hM 2)) (C := RX3) (T := TX3) (N := 6) hx hb hts hi3 hown hK hP 0 rfl rfl 3 (Nat.le_of_ble_eq_true rfl) (hts _ (List.mem_cons_of_mem _ wd_139)) (fun _ h9 => h9) rfl dX3_tryPart_1 ?_
  refine lv_iload_n hx hb dX3_tryPart_4 rfl (lv_at hl 3 rfl) ?_
  refine lv_iload_n hx hb dX3_tryPart_5 rfl (lv_at hl 2 rfl) ?_
  obtain ⟨i_M_1, M_1, e_M_1, hf⟩ := zw_some hf
  refine va_iast (n := 7) (f := M 3) (cA := cI) hx hb hK hP hD hS 2 0 rfl rfl i_M_1 dX3_tryPart_6 (fun H locs hP hD hS => ?_)
  have hP : va_P D vwCl (w3 cI cB hM (zs M 3 (upd (M 3) a3.toNatClampNeg a2)) ++ [k5_0 cI cB hP1 P1, k5_1 cI cB hP1 P1, k5_2 cI cB hP1 P1, k5_3 cI cB hP1 P1, k5_5 cI cB hP1 P1, k5_6 cI cB hP1 P1]) H := hP
  have hD : va_D A (w3 cI cB hM (zs M 3 (upd (M 3) a3.toNatClampNeg a2)) ++ [k5_0 cI cB hP1 P1, k5_1 cI cB hP1 P1, k5_2 cI cB hP1 P1, k5_3 cI cB hP1 P1, k5_5 cI cB hP1 P1, k5_6 cI cB hP1 P1]) := hD
  rw [← e_M_1] at hP hD
  refine lv_aload_n hx hb dX3_tryPart_7 rfl (lv_at hl 0 rfl) ?_
  refine va_get (D := D) (ci := 3) (v := .ref (hM 3)) (C := RX3) (T := TX3) (N := 6) hx hb hts hi3 hown hK hP 0 rfl rfl 4 (Nat.le_of_ble_eq_true rfl) (hts _ (List.mem_cons_of_mem _ wd_140)) (fun _ h9 => h9) rfl dX3_tryPart_8 ?_
  refine lv_iload_n hx hb dX3_tryPart_11 rfl (lv_at hl 2 rfl) ?_
  refine lv_aload_n hx hb dX3_tryPart_12 rfl (lv_at hl 1 rfl) ?_
  refine lv_iload_n hx hb dX3_tryPart_13 rfl (lv_at hl 2 rfl) ?_
  refine lv_iload_n hx hb dX3_tryPart_14 rfl (lv_at hl 2 rfl) ?_
  refine lv_iload_n hx hb dX3_tryPart_15 rfl (lv_at hl 3 rfl) ?_
  refine lv_aload_n hx hb dX3_tryPart_16 rfl (lv_at hl 1 rfl) ?_
  refine va_get (D := D) (ci := 5) (v := .int (P1 10 0)) (C := RX5) (T := TX5) (N := 12) hx hb hts hi5 hown hK hP 4 rfl rfl 10 (Nat.le_of_ble_eq_true rfl) (hts _ (List.mem_cons_of_mem _ wd_202)) (fun _ h9 => h9) rfl dX3_tryPart_17 ?_
  obtain ⟨r2, hq3, hf⟩ := zb1_some hf
  refine zcallSi (rest := [.int a2, .ref (hP1 0), .int a2, .ref (hM 3)]) ⟨hx, hb, hml, hown, hts⟩ (c_X5_slip l D cI cB a2 a3 (P1 10 0) r2 hq3) (z_cwS 3 hts (z_gS hG wd_519 wd_421 wd_10 wd_422) rfl rfl rfl q_X5_slip ⟨by dsimp only; omega, by dsimp only; omega⟩) hK hP hD hS hA rfl hl.1 (Nat.le_of_ble_eq_true rfl) dX3_tryPart_20 ⟨Nat.zero_le _, Nat.zero_le _⟩ rfl (fun H locs hP hD hS => ?_)
  obtain ⟨r4, hq5, hf⟩ := zb1_some hf
  refine zcallVi (ws2 := (w3 cI cB hM M_1 ++ [k5_0 cI cB hP1 P1, k5_1 cI cB hP1 P1, k5_2 cI cB hP1 P1, k5_3 cI cB hP1 P1, k5_5 cI cB hP1 P1, k5_6 cI cB hP1 P1])) (rest := [.int a2, .ref (hM 3)]) ⟨hx, hb, hml, hown, hts⟩ (c_X5_cutLength l D cI cB hP1 P1 a2 r2 r4 hq5) (cwV 2 hts (z_gV hG wd_520 wd_432 wd_433 wd_10 wd_434) rfl rfl rfl q_X5_cutLength ⟨by dsimp only; omega, by dsimp only; omega⟩) hK hP hD hS hA 5 rfl rfl rfl [4, 5, 6, 7] [0, 1, 2, 3, 8, 9] rfl rfl rfl rfl rfl rfl rfl hl.1 (Nat.le_of_ble_eq_true rfl) dX3_tryPart_23 ⟨Nat.zero_le _, Nat.zero_le _⟩ rfl (fun H locs hP hD hS => ?_)
  obtain ⟨i_M_6, M_6, e_M_6, hf⟩ := zw_some hf
  refine va_iast (n := 7) (f := M_1 4) (cA := cI) hx hb hK hP hD hS 3 0 rfl rfl i_M_6 dX3_tryPart_26 (fun H locs hP hD hS => ?_)
  have hP : va_P D vwCl (w3 cI cB hM (zs M_1 4 (upd (M_1 4) a2.toNatClampNeg r4)) ++ [k5_0 cI cB hP1 P1, k5_1 cI cB hP1 P1, k5_2 cI cB hP1 P1, k5_3 cI cB hP1 P1, k5_5 cI cB hP1 P1, k5_6 cI cB hP1 P1]) H := hP
  have hD : va_D A (w3 cI cB hM (zs M_1 4 (upd (M_1 4) a2.toNatClampNeg r4)) ++ [k5_0 cI cB hP1 P1, k5_1 cI cB hP1 P1, k5_2 cI cB hP1 P1, k5_3 cI cB hP1 P1, k5_5 cI cB hP1 P1, k5_6 cI cB hP1 P1]) := hD
  rw [← e_M_6] at hP hD
  refine lv_iload hx hb dX3_tryPart_27 (lv_at hl 4 rfl) ?_
  refine lv_aload_n hx hb dX3_tryPart_29 rfl (lv_at hl 0 rfl) ?_
  refine lv_aload_n hx hb dX3_tryPart_30 rfl (lv_at hl 1 rfl) ?_
  refine lv_iload_n hx hb dX3_tryPart_31 rfl (lv_at hl 2 rfl) ?_
  obtain ⟨r7, hq8, hf⟩ := zb1_some hf
  refine zcallVi (ws2 := (w3 cI cB hM M_6 ++ [k5_0 cI cB hP1 P1, k5_1 cI cB hP1 P1, k5_2 cI cB hP1 P1, k5_3 cI cB hP1 P1, k5_5 cI cB hP1 P1, k5_6 cI cB hP1 P1])) (rest := [.int a4]) ⟨hx, hb, hml, hown, hts⟩ (c_X3_gapsWithPlaced l D cI cB hM hP1 M_6 P1 a2 r7 hq8) (cwV 2 hts (z_gV hG wd_521 wd_523 wd_s15 wd_8 wd_524) rfl rfl rfl q_X3_gapsWithPlaced ⟨by dsimp only; omega, by dsimp only; omega⟩) hK hP hD hS hA 3 rfl rfl rfl [0, 3, 4, 8, 9] [1, 2, 5, 6, 7] rfl rfl rfl rfl rfl rfl rfl hl.1 (Nat.le_of_ble_eq_true rfl) dX3_tryPart_32 ⟨Nat.zero_le _, Nat.zero_le _⟩ rfl (fun H locs hP hD hS => ?_)
  refine lv_iadd hx hb dX3_tryPart_35 ?_
  obtain ⟨x9, e_x9, hf⟩ := zv_some hf
  refine zt e_x9 ?_
  refine lv_istore (lv' := [(5, .int x9), (0, .ref (hM 0)), (1, .ref (hP1 0)), (2, .int a2), (3, .int a3), (4, .int a4)]) hx hb dX3_tryPart_36 hl (by decide) rfl (fun ls hl => ?_)
  refine lv_iload hx hb dX3_tryPart_38 (lv_at hl 0 rfl) ?_
  refine lv_aload_n hx hb dX3_tryPart_40 rfl (lv_at hl 1 rfl) ?_
  refine va_get (D := D) (ci := 3) (v := .int (M_6 2 0)) (C := RX3) (T := TX3) (N := 6) hx hb hts hi3 hown hK hP 0 rfl rfl 2 (Nat.le_of_ble_eq_true rfl) (hts _ (List.mem_cons_of_mem _ wd_137)) (fun _ h9 => h9) rfl dX3_tryPart_41 ?_
  refine lv_icmp_ge (tgt := 83) hx hb dX3_tryPart_44 (by decide) (fun c_10 => ?_) (fun c_10 => ?_)
  · replace hf := zit c_10 hf
    cases hf
    exact zretV hx hb hr hlocks hK hP hD hS dX3_tryPart_83
  · replace hf := zif c_10 hf
    refine lv_aload_n hx hb dX3_tryPart_47 rfl (lv_at hl 1 rfl) ?_
    refine lv_dup hx hb dX3_tryPart_48 rfl ?_
    refine va_get (D := D) (ci := 3) (v := .int (M_6 5 0)) (C := RX3) (T := TX3) (N := 6) hx hb hts hi3 hown hK hP 0 rfl rfl 5 (Nat.le_of_ble_eq_true rfl) (hts _ (List.mem_cons_of_mem _ wd_141)) (fun _ h9 => h9) rfl dX3_tryPart_49 ?_
    refine lv_iconst (v := 1) hx hb dX3_tryPart_52 (by decide) ?_
    refine lv_iload_n hx hb dX3_tryPart_53 rfl (lv_at hl 3 rfl) ?_
    refine lv_ishl hx hb dX3_tryPart_54 ?_
    refine lv_ior hx hb dX3_tryPart_55 ?_
    obtain ⟨M_11, e_M_11, hf⟩ := zv_some hf
    refine va_put (D := D) (ci := 3) (v := .int ((M_6 5 0) ||| ((1 : Int32) <<< (a2 &&& 31)))) (ty := .int) (C := RX3) (T := TX3) (N := 6) hx hb hts hi3 tyX3 tyX3_ok nmX3 hown hK hP hD hS 0 rfl rfl 5 (Nat.le_of_ble_eq_true rfl) (hts _ (List.mem_cons_of_mem _ wd_141)) (fun _ h9 => h9) rfl (by decide +kernel) rfl rfl (Nat.le_of_ble_eq_true rfl) dX3_tryPart_56 (fun H locs hP hD hS => ?_)
    have hP : va_P D vwCl (w3 cI cB hM (zs M_6 5 (fun _ => (M_6 5 0) ||| ((1 : Int32) <<< (a2 &&& 31)))) ++ [k5_0 cI cB hP1 P1, k5_1 cI cB hP1 P1, k5_2 cI cB hP1 P1, k5_3 cI cB hP1 P1, k5_5 cI cB hP1 P1, k5_6 cI cB hP1 P1]) H := hP
    have hD : va_D A (w3 cI cB hM (zs M_6 5 (fun _ => (M_6 5 0) ||| ((1 : Int32) <<< (a2 &&& 31)))) ++ [k5_0 cI cB hP1 P1, k5_1 cI cB hP1 P1, k5_2 cI cB hP1 P1, k5_3 cI cB hP1 P1, k5_5 cI cB hP1 P1, k5_6 cI cB hP1 P1]) := hD
    rw [← e_M_11] at hP hD
    refine lv_aload_n hx hb dX3_tryPart_59 rfl (lv_at hl 1 rfl) ?_
    refine lv_aload_n hx hb dX3_tryPart_60 rfl (lv_at hl 2 rfl) ?_
    refine lv_iload_n hx hb dX3_tryPart_61 rfl (lv_at hl 4 rfl) ?_
    refine lv_iconst (v := 1) hx hb dX3_tryPart_62 (by decide) ?_
    refine lv_iadd hx hb dX3_tryPart_63 ?_
    refine lv_iload hx hb dX3_tryPart_64 (lv_at hl 0 rfl) ?_
    obtain ⟨M_12, hq13, hf⟩ := zb1_some hf
    refine zcallVv (ws2 := (w3 cI cB hM M_12 ++ [k5_0 cI cB hP1 P1, k5_1 cI cB hP1 P1, k5_2 cI cB hP1 P1, k5_3 cI cB hP1 P1, k5_5 cI cB hP1 P1, k5_6 cI cB hP1 P1])) (rest := []) ⟨hx, hb, hml, hown, hts⟩ (hrec hM hP1 M_11 P1 (a3 + 1) x9 M_12 hq13) (cwV 3 hts (z_gV hG wd_507 wd_509 wd_s12 wd_8 wd_510) rfl rfl rfl q_X3_tryPlace ⟨by dsimp only; omega, by dsimp only; omega⟩) hK hP hD hS hA 3 rfl rfl rfl [0, 1, 2, 3, 4, 5, 6, 7, 8, 9] [] rfl rfl rfl rfl rfl rfl rfl hl.1 (Nat.le_of_ble_eq_true rfl) dX3_tryPart_66 ⟨Nat.zero_le _, Nat.zero_le _⟩ rfl (fun H locs hP hD hS => ?_)
    refine lv_aload_n hx hb dX3_tryPart_69 rfl (lv_at hl 1 rfl) ?_
    refine lv_dup hx hb dX3_tryPart_70 rfl ?_
    refine va_get (D := D) (ci := 3) (v := .int (M_12 5 0)) (C := RX3) (T := TX3) (N := 6) hx hb hts hi3 hown hK hP 0 rfl rfl 5 (Nat.le_of_ble_eq_true rfl) (hts _ (List.mem_cons_of_mem _ wd_141)) (fun _ h9 => h9) rfl dX3_tryPart_71 ?_
    refine lv_iconst (v := 1) hx hb dX3_tryPart_74 (by decide) ?_
    refine lv_iload_n hx hb dX3_tryPart_75 rfl (lv_at hl 3 rfl) ?_
    refine lv_ishl hx hb dX3_tryPart_76 ?_
    refine lv_iconst (v := (-1)) hx hb dX3_tryPart_77 (by decide) ?_
    refine lv_ixor hx hb dX3_tryPart_78 ?_
    refine lv_iand hx hb dX3_tryPart_79 ?_
    obtain ⟨M_14, e_M_14, hf⟩ := zv_some hf
    refine va_put (D := D) (ci := 3) (v := .int ((M_12 5 0) &&& (((1 : Int32) <<< (a2 &&& 31)) ^^^ (-1)))) (ty := .int) (C := RX3) (T := TX3) (N := 6) hx hb hts hi3 tyX3 tyX3_ok nmX3 hown hK hP hD hS 0 rfl rfl 5 (Nat.le_of_ble_eq_true rfl) (hts _ (List.mem_cons_of_mem _ wd_141)) (fun _ h9 => h9) rfl (by decide +kernel) rfl rfl (Nat.le_of_ble_eq_true rfl) dX3_tryPart_80 (fun H locs hP hD hS => ?_)
    have hP : va_P D vwCl (w3 cI cB hM (zs M_12 5 (fun _ => (M_12 5 0) &&& (((1 : Int32) <<< (a2 &&& 31)) ^^^ (-1)))) ++ [k5_0 cI cB hP1 P1, k5_1 cI cB hP1 P1, k5_2 cI cB hP1 P1, k5_3 cI cB hP1 P1, k5_5 cI cB hP1 P1, k5_6 cI cB hP1 P1]) H := hP
    have hD : va_D A (w3 cI cB hM (zs M_12 5 (fun _ => (M_12 5 0) &&& (((1 : Int32) <<< (a2 &&& 31)) ^^^ (-1)))) ++ [k5_0 cI cB hP1 P1, k5_1 cI cB hP1 P1, k5_2 cI cB hP1 P1, k5_3 cI cB hP1 P1, k5_5 cI cB hP1 P1, k5_6 cI cB hP1 P1]) := hD
    rw [← e_M_14] at hP hD
    cases hf
    exact zretV hx hb hr hlocks hK hP hD hS dX3_tryPart_83
def L_X3_tryPlace_49 (rec : zMm → zMm → Int32 → Int32 → Option (zMm)) (P1 : zMm) (l2 : Int32) (l3 : Int32) : Nat → Int32 → zMm → Option (Int32 × zMm)
  | 0, _, _ => none
  | n + 1, l4, M => if (P1 7 0) ≤ l4 then some (l4, M) else zb1 (f_X3_isPlaced M l4) (fun (r3 : Int32) => zb1 (if r3 = 0 then zb1 (f_X3_tryPart rec M P1 l4 l2 l3) (fun (M_9 : zMm) => some M_9) else some M) (fun (M_6 : zMm) => zv (l4 + 1) (fun (x11 : Int32) => L_X3_tryPlace_49 rec P1 l2 l3 n x11 M_6)))
def L_X3_tryPlace_16 (rec : zMm → zMm → Int32 → Int32 → Option (zMm)) (P1 : zMm) (l2 : Int32) (l3 : Int32) : Nat → Int32 → zMm → Option (Int32 × zMm)
  | 0, _, _ => none
  | n + 1, l4, M => if (P1 7 0) ≤ l4 then some (l4, M) else zl 7 (M 3) l4 (fun v17 => zw 7 M 0 l4 v17 (fun M_18 => zv (l4 + 1) (fun (x19 : Int32) => L_X3_tryPlace_16 rec P1 l2 l3 n x19 M_18)))
def f_X3_tryPlace (rec : zMm → zMm → Int32 → Int32 → Option (zMm)) (M : zMm) (P1 : zMm) (a2 : Int32) (a3 : Int32) : Option (zMm) := if a2 < (P1 7 0) then zb2 (L_X3_tryPlace_49 rec P1 a2 a3 100000 0 M) (fun (x12 : Int32) (M_13 : zMm) => some M_13) else zv (zs M 2 (fun _ => a3)) (fun (M_15 : zMm) => zb2 (L_X3_tryPlace_16 rec P1 a2 a3 100000 0 M_15) (fun (x20 : Int32) (M_21 : zMm) => some M_21))
set_option maxHeartbeats 4000000 in
set_option maxRecDepth 100000 in
theorem c_X3_tryPlace (l : Launch) (D : va_G) (cI cB : ClassId) (dd : Nat) (rec : zMm → zMm → Int32 → Int32 → Option (zMm)) (hrec : ∀ (hM hP1 : Nat → Nat) (M P1 : zMm) (a2 a3 : Int32) (M0 : zMm), rec M P1 a2 a3 = some M0 → zMv l yX3_tryPlace ww_X3_tryPlace ({ frames := 2 * dd + 4, cells := 0, slots := 0, locals := 60 * dd + 120 } : Room) D cI cB [.ref (hM 0), .ref (hP1 0), .int a2, .int a3] (w3 cI cB hM M ++ [k5_0 cI cB hP1 P1, k5_1 cI cB hP1 P1, k5_2 cI cB hP1 P1, k5_3 cI cB hP1 P1, k5_5 cI cB hP1 P1, k5_6 cI cB hP1 P1]) (w3 cI cB hM M0 ++ [k5_0 cI cB hP1 P1, k5_1 cI cB hP1 P1, k5_2 cI cB hP1 P1, k5_3 cI cB hP1 P1, k5_5 cI cB hP1 P1, k5_6 cI cB hP1 P1])) (hM : Nat → Nat) (hP1 : Nat → Nat) (M : zMm) (P1 : zMm) (a2 : Int32) (a3 : Int32) (M0 : zMm) (hf : f_X3_tryPlace rec M P1 a2 a3 = some M0) : zMv l yX3_tryPlace ww_X3_tryPlace ({ frames := 2 * dd + 6, cells := 0, slots := 0, locals := 60 * dd + 180 } : Room) D cI cB [.ref (hM 0), .ref (hP1 0), .int a2, .int a3] (w3 cI cB hM M ++ [k5_0 cI cB hP1 P1, k5_1 cI cB hP1 P1, k5_2 cI cB hP1 P1, k5_3 cI cB hP1 P1, k5_5 cI cB hP1 P1, k5_6 cI cB hP1 P1]) (w3 cI cB hM M0 ++ [k5_0 cI cB hP1 P1, k5_1 cI cB hP1 P1, k5_2 cI cB hP1 P1, k5_3 cI cB hP1 P1, k5_5 cI cB hP1 P1, k5_6 cI cB hP1 P1]) := by
  refine zofV (cc := cX3_tryPlace) (maxL := 5) (ret := none) (by decide +kernel) rfl (Nat.le_of_ble_eq_true rfl) ?_
  intro p e s m below meth c A ls hx hb hml hr hown hts hlocks hK hP hD hS hA hl
  have hl : lv_has ls 5 [(0, .ref (hM 0)), (1, .ref (hP1 0)), (2, .int a2), (3, .int a3)] := hl
  have hown : s.vm.findClass RX3 = some m.cls := hown
  have hG : ∀ w ∈ wG, w ∈ ww_X3_tryPlace := fun w h => List.mem_cons_of_mem _ h
  have hi3 : ∀ w ∈ wsX30, w ∈ ww_X3_tryPlace := fun w h => List.mem_cons_of_mem _ (z_inX3 w h)
  have hi5 : ∀ w ∈ wsX50, w ∈ ww_X3_tryPlace := fun w h => List.mem_cons_of_mem _ (z_inX5 w h)
  have L49 : ∀ (P1 : zMm) (l2 : Int32) (l3 : Int32) (n : Nat) (l4 : Int32) (M : zMm) (o4 : Int32) (oM : zMm), L_X3_tryPlace_49 rec P1 l2 l3 n l4 M = some (o4, oM) → zAt p l e ({ frames := 2 * dd + 6, cells := 0, slots := 0, locals := 60 * dd + 180 } : Room) s m [.ref (hM 0), .ref (hP1 0), .int a2, .int a3].toArray below meth c (MQ below (zQv D cI cB (w3 cI cB hM M0 ++ [k5_0 cI cB hP1 P1, k5_1 cI cB hP1 P1, k5_2 cI cB hP1 P1, k5_3 cI cB hP1 P1, k5_5 cI cB hP1 P1, k5_6 cI cB hP1 P1]) A) [.ref (hM 0), .ref (hP1 0), .int a2, .int a3].toArray s 0 0 A) A D 5 (w3 cI cB hM oM ++ [k5_0 cI cB hP1 P1, k5_1 cI cB hP1 P1, k5_2 cI cB hP1 P1, k5_3 cI cB hP1 P1, k5_5 cI cB hP1 P1, k5_6 cI cB hP1 P1]) [(0, .ref (hM 0)), (1, .ref (hP1 0)), (2, .int l2), (3, .int l3), (4, .int o4)] 82 [] → zAt p l e ({ frames := 2 * dd + 6, cells := 0, slots := 0, locals := 60 * dd + 180 } : Room) s m [.ref (hM 0), .ref (hP1 0), .int a2, .int a3].toArray below meth c (MQ below (zQv D cI cB (w3 cI cB hM M0 ++ [k5_0 cI cB hP1 P1, k5_1 cI cB hP1 P1, k5_2 cI cB hP1 P1, k5_3 cI cB hP1 P1, k5_5 cI cB hP1 P1, k5_6 cI cB hP1 P1]) A) [.ref (hM 0), .ref (hP1 0), .int a2, .int a3].toArray s 0 0 A) A D 5 (w3 cI cB hM M ++ [k5_0 cI cB hP1 P1, k5_1 cI cB hP1 P1, k5_2 cI cB hP1 P1, k5_3 cI cB hP1 P1, k5_5 cI cB hP1 P1, k5_6 cI cB hP1 P1]) [(0, .ref (hM 0)), (1, .ref (hP1 0)), (2, .int l2), (3, .int l3), (4, .int l4)] 49 [] := by
    intro P1 l2 l3 n
    induction n with
    | zero => intro l4 M o4 oM hf; simp [L_X3_tryPlace_49] at hf
    | succ n ih =>
      intro l4 M o4 oM hf hk H locs ls hP hD hS hl
      rw [L_X3_tryPlace_49] at hf
      refine lv_iload hx hb dX3_tryPlace_49 (lv_at hl 4 rfl) ?_
      refine lv_aload_n hx hb dX3_tryPlace_51 rfl (lv_at hl 1 rfl) ?_
      refine va_get (D := D) (ci := 5) (v := .int (P1 7 0)) (C := RX5) (T := TX5) (N := 12) hx hb hts hi5 hown hK hP 4 rfl rfl 7 (Nat.le_of_ble_eq_true rfl) (hts _ (List.mem_cons_of_mem _ wd_195)) (fun _ h9 => h9) rfl dX3_tryPlace_52 ?_
      refine lv_icmp_ge (tgt := 82) hx hb dX3_tryPlace_55 (by decide) (fun c_2 => ?_) (fun c_2 => ?_)
      · replace hf := zit c_2 hf
        cases hf
        exact hk _ _ _ hP hD hS (lv_sub hl [0, 1, 2, 3, 4] rfl)
      · replace hf := zif c_2 hf
        refine lv_aload_n hx hb dX3_tryPlace_58 rfl (lv_at hl 0 rfl) ?_
        refine lv_iload hx hb dX3_tryPlace_59 (lv_at hl 4 rfl) ?_
        obtain ⟨r3, hq4, hf⟩ := zb1_some hf
        refine zcallVi (ws2 := (w3 cI cB hM M ++ [k5_0 cI cB hP1 P1, k5_1 cI cB hP1 P1, k5_2 cI cB hP1 P1, k5_3 cI cB hP1 P1, k5_5 cI cB hP1 P1, k5_6 cI cB hP1 P1])) (rest := []) ⟨hx, hb, hml, hown, hts⟩ (c_X3_isPlaced l D cI cB hM M l4 r3 hq4) (cwV 1 hts (z_gV hG wd_511 wd_513 wd_s13 wd_8 wd_514) rfl rfl rfl q_X3_isPlaced ⟨by dsimp only; omega, by dsimp only; omega⟩) hK hP hD hS hA 3 rfl rfl rfl [0] [1, 2, 3, 4, 5, 6, 7, 8, 9] rfl rfl rfl rfl rfl rfl rfl hl.1 (Nat.le_of_ble_eq_true rfl) dX3_tryPlace_61 ⟨Nat.zero_le _, Nat.zero_le _⟩ rfl (fun H locs hP hD hS => ?_)
        obtain ⟨M_6, hq7, hf⟩ := zb1_some hf
        have J8 : zAt p l e ({ frames := 2 * dd + 6, cells := 0, slots := 0, locals := 60 * dd + 180 } : Room) s m [.ref (hM 0), .ref (hP1 0), .int a2, .int a3].toArray below meth c (MQ below (zQv D cI cB (w3 cI cB hM M0 ++ [k5_0 cI cB hP1 P1, k5_1 cI cB hP1 P1, k5_2 cI cB hP1 P1, k5_3 cI cB hP1 P1, k5_5 cI cB hP1 P1, k5_6 cI cB hP1 P1]) A) [.ref (hM 0), .ref (hP1 0), .int a2, .int a3].toArray s 0 0 A) A D 5 (w3 cI cB hM M_6 ++ [k5_0 cI cB hP1 P1, k5_1 cI cB hP1 P1, k5_2 cI cB hP1 P1, k5_3 cI cB hP1 P1, k5_5 cI cB hP1 P1, k5_6 cI cB hP1 P1]) [(0, .ref (hM 0)), (1, .ref (hP1 0)), (2, .int l2), (3, .int l3), (4, .int l4)] 76 [] := by
          intro H locs ls hP hD hS hl
          obtain ⟨x11, e_x11, hf⟩ := zv_some hf
          refine lv_iinc (v := x11) (lv' := [(4, .int x11), (0, .ref (hM 0)), (1, .ref (hP1 0)), (2, .int l2), (3, .int l3)]) hx hb dX3_tryPlace_76 hl (k := 4) rfl (by rw [e_x11]; rfl) (by decide) rfl (fun ls hl => ?_)
          refine lv_goto (tgt := 49) hx hb dX3_tryPlace_79 (by decide) ?_
          exact ih _ _ _ _ hf hk _ _ _ hP hD hS (lv_sub hl [1, 2, 3, 4, 0] rfl)
        replace hf := hq7
        refine lv_if_ne (tgt := 76) hx hb dX3_tryPlace_64 (by decide) (fun c_5 => ?_) (fun c_5 => ?_)
        · replace hf := zif c_5 hf
          cases hf
          exact J8 _ _ _ hP hD hS (lv_sub hl [0, 1, 2, 3, 4] rfl)
        · replace hf := zit c_5 hf
          refine lv_aload_n hx hb dX3_tryPlace_67 rfl (lv_at hl 0 rfl) ?_
          refine lv_aload_n hx hb dX3_tryPlace_68 rfl (lv_at hl 1 rfl) ?_
          refine lv_iload hx hb dX3_tryPlace_69 (lv_at hl 4 rfl) ?_
          refine lv_iload_n hx hb dX3_tryPlace_71 rfl (lv_at hl 2 rfl) ?_
          refine lv_iload_n hx hb dX3_tryPlace_72 rfl (lv_at hl 3 rfl) ?_
          obtain ⟨M_9, hq10, hf⟩ := zb1_some hf
          refine zcallVv (ws2 := (w3 cI cB hM M_9 ++ [k5_0 cI cB hP1 P1, k5_1 cI cB hP1 P1, k5_2 cI cB hP1 P1, k5_3 cI cB hP1 P1, k5_5 cI cB hP1 P1, k5_6 cI cB hP1 P1])) (rest := []) ⟨hx, hb, hml, hown, hts⟩ (c_X3_tryPart l D cI cB dd rec hrec hM hP1 M P1 l4 l2 l3 M_9 hq10) (cwV 4 hts (z_gV hG wd_515 wd_517 wd_s14 wd_8 wd_518) rfl rfl rfl q_X3_tryPart ⟨by dsimp only; omega, by dsimp only; omega⟩) hK hP hD hS hA 3 rfl rfl rfl [0, 1, 2, 3, 4, 5, 6, 7, 8, 9] [] rfl rfl rfl rfl rfl rfl rfl hl.1 (Nat.le_of_ble_eq_true rfl) dX3_tryPlace_73 ⟨Nat.zero_le _, Nat.zero_le _⟩ rfl (fun H locs hP hD hS => ?_)
          cases hf
          exact J8 _ _ _ hP hD hS (lv_sub hl [0, 1, 2, 3, 4] rfl)
  have L16 : ∀ (P1 : zMm) (l2 : Int32) (l3 : Int32) (n : Nat) (l4 : Int32) (M : zMm) (o4 : Int32) (oM : zMm), L_X3_tryPlace_16 rec P1 l2 l3 n l4 M = some (o4, oM) → zAt p l e ({ frames := 2 * dd + 6, cells := 0, slots := 0, locals := 60 * dd + 180 } : Room) s m [.ref (hM 0), .ref (hP1 0), .int a2, .int a3].toArray below meth c (MQ below (zQv D cI cB (w3 cI cB hM M0 ++ [k5_0 cI cB hP1 P1, k5_1 cI cB hP1 P1, k5_2 cI cB hP1 P1, k5_3 cI cB hP1 P1, k5_5 cI cB hP1 P1, k5_6 cI cB hP1 P1]) A) [.ref (hM 0), .ref (hP1 0), .int a2, .int a3].toArray s 0 0 A) A D 5 (w3 cI cB hM oM ++ [k5_0 cI cB hP1 P1, k5_1 cI cB hP1 P1, k5_2 cI cB hP1 P1, k5_3 cI cB hP1 P1, k5_5 cI cB hP1 P1, k5_6 cI cB hP1 P1]) [(0, .ref (hM 0)), (1, .ref (hP1 0)), (2, .int l2), (3, .int l3), (4, .int o4)] 45 [] → zAt p l e ({ frames := 2 * dd + 6, cells := 0, slots := 0, locals := 60 * dd + 180 } : Room) s m [.ref (hM 0), .ref (hP1 0), .int a2, .int a3].toArray below meth c (MQ below (zQv D cI cB (w3 cI cB hM M0 ++ [k5_0 cI cB hP1 P1, k5_1 cI cB hP1 P1, k5_2 cI cB hP1 P1, k5_3 cI cB hP1 P1, k5_5 cI cB hP1 P1, k5_6 cI cB hP1 P1]) A) [.ref (hM 0), .ref (hP1 0), .int a2, .int a3].toArray s 0 0 A) A D 5 (w3 cI cB hM M ++ [k5_0 cI cB hP1 P1, k5_1 cI cB hP1 P1, k5_2 cI cB hP1 P1, k5_3 cI cB hP1 P1, k5_5 cI cB hP1 P1, k5_6 cI cB hP1 P1]) [(0, .ref (hM 0)), (1, .ref (hP1 0)), (2, .int l2), (3, .int l3), (4, .int l4)] 16 [] := by
    intro P1 l2 l3 n
    induction n with
    | zero => intro l4 M o4 oM hf; simp [L_X3_tryPlace_16] at hf
    | succ n ih =>
      intro l4 M o4 oM hf hk H locs ls hP hD hS hl
      rw [L_X3_tryPlace_16] at hf
      refine lv_iload hx hb dX3_tryPlace_16 (lv_at hl 4 rfl) ?_
      refine lv_aload_n hx hb dX3_tryPlace_18 rfl (lv_at hl 1 rfl) ?_
      refine va_get (D := D) (ci := 5) (v := .int (P1 7 0)) (C := RX5) (T := TX5) (N := 12) hx hb hts hi5 hown hK hP 4 rfl rfl 7 (Nat.le_of_ble_eq_true rfl) (hts _ (List.mem_cons_of_mem _ wd_195)) (fun _ h9 => h9) rfl dX3_tryPlace_19 ?_
      refine lv_icmp_ge (tgt := 45) hx hb dX3_tryPlace_22 (by decide) (fun c_16 => ?_) (fun c_16 => ?_)
      · replace hf := zit c_16 hf
        cases hf
        exact hk _ _ _ hP hD hS (lv_sub hl [0, 1, 2, 3, 4] rfl)
      · replace hf := zif c_16 hf
        refine lv_aload_n hx hb dX3_tryPlace_25 rfl (lv_at hl 0 rfl) ?_
        refine va_get (D := D) (ci := 3) (v := .ref (hM 1)) (C := RX3) (T := TX3) (N := 6) hx hb hts hi3 hown hK hP 0 rfl rfl 0 (Nat.le_of_ble_eq_true rfl) (hts _ (List.mem_cons_of_mem _ wd_133)) (fun _ h9 => h9) rfl dX3_tryPlace_26 ?_
        refine lv_iload hx hb dX3_tryPlace_29 (lv_at hl 4 rfl) ?_
        refine lv_aload_n hx hb dX3_tryPlace_31 rfl (lv_at hl 0 rfl) ?_
        refine va_get (D := D) (ci := 3) (v := .ref (hM 2)) (C := RX3) (T := TX3) (N := 6) hx hb hts hi3 hown hK hP 0 rfl rfl 3 (Nat.le_of_ble_eq_true rfl) (hts _ (List.mem_cons_of_mem _ wd_139)) (fun _ h9 => h9) rfl dX3_tryPlace_32 ?_
        refine lv_iload hx hb dX3_tryPlace_35 (lv_at hl 4 rfl) ?_
        obtain ⟨i_v17, v17, e_v17, hf⟩ := zl_some hf
        refine va_iald (n := 7) (f := M 3) (cA := cI) hx hb hK hP 2 0 rfl rfl i_v17 dX3_tryPlace_37 ?_
        refine zt e_v17 ?_
        obtain ⟨i_M_18, M_18, e_M_18, hf⟩ := zw_some hf
        refine va_iast (n := 7) (f := M 0) (cA := cI) hx hb hK hP hD hS 1 0 rfl rfl i_M_18 dX3_tryPlace_38 (fun H locs hP hD hS => ?_)
        have hP : va_P D vwCl (w3 cI cB hM (zs M 0 (upd (M 0) l4.toNatClampNeg v17)) ++ [k5_0 cI cB hP1 P1, k5_1 cI cB hP1 P1, k5_2 cI cB hP1 P1, k5_3 cI cB hP1 P1, k5_5 cI cB hP1 P1, k5_6 cI cB hP1 P1]) H := hP
        have hD : va_D A (w3 cI cB hM (zs M 0 (upd (M 0) l4.toNatClampNeg v17)) ++ [k5_0 cI cB hP1 P1, k5_1 cI cB hP1 P1, k5_2 cI cB hP1 P1, k5_3 cI cB hP1 P1, k5_5 cI cB hP1 P1, k5_6 cI cB hP1 P1]) := hD
        rw [← e_M_18] at hP hD
        obtain ⟨x19, e_x19, hf⟩ := zv_some hf
        refine lv_iinc (v := x19) (lv' := [(4, .int x19), (0, .ref (hM 0)), (1, .ref (hP1 0)), (2, .int l2), (3, .int l3)]) hx hb dX3_tryPlace_39 hl (k := 4) rfl (by rw [e_x19]; rfl) (by decide) rfl (fun ls hl => ?_)
        refine lv_goto (tgt := 16) hx hb dX3_tryPlace_42 (by decide) ?_
        exact ih _ _ _ _ hf hk _ _ _ hP hD hS (lv_sub hl [1, 2, 3, 4, 0] rfl)
  unfold f_X3_tryPlace at hf
  refine lv_iload_n hx hb dX3_tryPlace_0 rfl (lv_at hl 2 rfl) ?_
  refine lv_aload_n hx hb dX3_tryPlace_1 rfl (lv_at hl 1 rfl) ?_
  refine va_get (D := D) (ci := 5) (v := .int (P1 7 0)) (C := RX5) (T := TX5) (N := 12) hx hb hts hi5 hown hK hP 4 rfl rfl 7 (Nat.le_of_ble_eq_true rfl) (hts _ (List.mem_cons_of_mem _ wd_195)) (fun _ h9 => h9) rfl dX3_tryPlace_2 ?_
  refine lv_icmp_lt (tgt := 46) hx hb dX3_tryPlace_5 (by decide) (fun c_1 => ?_) (fun c_1 => ?_)
  · replace hf := zit c_1 hf
    refine lv_iconst (v := 0) hx hb dX3_tryPlace_46 (by decide) ?_
    refine lv_istore (lv' := [(4, .int 0), (0, .ref (hM 0)), (1, .ref (hP1 0)), (2, .int a2), (3, .int a3)]) hx hb dX3_tryPlace_47 hl (by decide) rfl (fun ls hl => ?_)
    obtain ⟨x12, M_13, hq14, hf⟩ := zb2_some hf
    refine L49 _ _ _ _ _ _ _ _ hq14 ?_ _ _ _ hP hD hS (lv_sub hl [1, 2, 3, 4, 0] rfl)
    intro H locs ls hP hD hS hl
    cases hf
    exact zretV hx hb hr hlocks hK hP hD hS dX3_tryPlace_82
  · replace hf := zif c_1 hf
    refine lv_aload_n hx hb dX3_tryPlace_8 rfl (lv_at hl 0 rfl) ?_
    refine lv_iload_n hx hb dX3_tryPlace_9 rfl (lv_at hl 3 rfl) ?_
    obtain ⟨M_15, e_M_15, hf⟩ := zv_some hf
    refine va_put (D := D) (ci := 3) (v := .int a3) (ty := .int) (C := RX3) (T := TX3) (N := 6) hx hb hts hi3 tyX3 tyX3_ok nmX3 hown hK hP hD hS 0 rfl rfl 2 (Nat.le_of_ble_eq_true rfl) (hts _ (List.mem_cons_of_mem _ wd_137)) (fun _ h9 => h9) rfl (by decide +kernel) rfl rfl (Nat.le_of_ble_eq_true rfl) dX3_tryPlace_10 (fun H locs hP hD hS => ?_)
    have hP : va_P D vwCl (w3 cI cB hM (zs M 2 (fun _ => a3)) ++ [k5_0 cI cB hP1 P1, k5_1 cI cB hP1 P1, k5_2 cI cB hP1 P1, k5_3 cI cB hP1 P1, k5_5 cI cB hP1 P1, k5_6 cI cB hP1 P1]) H := hP
    have hD : va_D A (w3 cI cB hM (zs M 2 (fun _ => a3)) ++ [k5_0 cI cB hP1 P1, k5_1 cI cB hP1 P1, k5_2 cI cB hP1 P1, k5_3 cI cB hP1 P1, k5_5 cI cB hP1 P1, k5_6 cI cB hP1 P1]) := hD
    rw [← e_M_15] at hP hD
    refine lv_iconst (v := 0) hx hb dX3_tryPlace_13 (by decide) ?_
    refine lv_istore (lv' := [(4, .int 0), (0, .ref (hM 0)), (1, .ref (hP1 0)), (2, .int a2), (3, .int a3)]) hx hb dX3_tryPlace_14 hl (by decide) rfl (fun ls hl => ?_)
    obtain ⟨x20, M_21, hq22, hf⟩ := zb2_some hf
    refine L16 _ _ _ _ _ _ _ _ hq22 ?_ _ _ _ hP hD hS (lv_sub hl [1, 2, 3, 4, 0] rfl)
    intro H locs ls hP hD hS hl
    cases hf
    exact zretV hx hb hr hlocks hK hP hD hS dX3_tryPlace_45
def F_X3_tryPlace : Nat → zMm → zMm → Int32 → Int32 → Option (zMm)
  | 0 => fun _ _ _ _ => none
  | d + 1 => f_X3_tryPlace (F_X3_tryPlace d)
theorem C_X3_tryPlace (l : Launch) (D : va_G) (cI cB : ClassId) : ∀ (dd : Nat) (hM hP1 : Nat → Nat) (M P1 : zMm) (a2 a3 : Int32) (M0 : zMm), F_X3_tryPlace dd M P1 a2 a3 = some M0 → zMv l yX3_tryPlace ww_X3_tryPlace ({ frames := 2 * dd + 4, cells := 0, slots := 0, locals := 60 * dd + 120 } : Room) D cI cB [.ref (hM 0), .ref (hP1 0), .int a2, .int a3] (w3 cI cB hM M ++ [k5_0 cI cB hP1 P1, k5_1 cI cB hP1 P1, k5_2 cI cB hP1 P1, k5_3 cI cB hP1 P1, k5_5 cI cB hP1 P1, k5_6 cI cB hP1 P1]) (w3 cI cB hM M0 ++ [k5_0 cI cB hP1 P1, k5_1 cI cB hP1 P1, k5_2 cI cB hP1 P1, k5_3 cI cB hP1 P1, k5_5 cI cB hP1 P1, k5_6 cI cB hP1 P1]) := by
  intro dd
  induction dd with
  | zero =>
    intro hM hP1 M P1 a2 a3 M0 hf
    cases hf
  | succ dd ih =>
    intro hM hP1 M P1 a2 a3 M0 hf
    exact c_X3_tryPlace l D cI cB dd (F_X3_tryPlace dd) ih hM hP1 M P1 a2 a3 M0 hf
def f_X3_search (M : zMm) (P1 : zMm) : Option (zMm) := zv (zs M 2 (fun _ => 2991)) (fun (M_1 : zMm) => zv (zs M_1 5 (fun _ => 0)) (fun (M_2 : zMm) => zb1 (F_X3_tryPlace 9 M_2 P1 0 0) (fun (M_3 : zMm) => zv (zs M_3 1 (fun _ => 1)) (fun (M_5 : zMm) => some M_5))))
abbrev ww_X3_search : List Cond := Cond.code yX3_search cX3_search 2 none :: wG
theorem q_X3_search : yX3_search.cls = RX3 ∧ yX3_search.cls ≠ "java/lang/invoke/MethodHandle" ∧ yX3_search.cls ≠ "java/lang/invoke/VarHandle" ∧ (parseMethodDescriptor yX3_search.desc).map (fun d => d.parameters.length) = some 1 := by decide +kernel
set_option maxHeartbeats 4000000 in
set_option maxRecDepth 100000 in
theorem c_X3_search (l : Launch) (D : va_G) (cI cB : ClassId) (hM : Nat → Nat) (hP1 : Nat → Nat) (M : zMm) (P1 : zMm) (M0 : zMm) (hf : f_X3_search M P1 = some M0) : zMv l yX3_search ww_X3_search ({ frames := 23, cells := 0, slots := 0, locals := 684 } : Room) D cI cB [.ref (hM 0), .ref (hP1 0)] (w3 cI cB hM M ++ [k5_0 cI cB hP1 P1, k5_1 cI cB hP1 P1, k5_2 cI cB hP1 P1, k5_3 cI cB hP1 P1, k5_5 cI cB hP1 P1, k5_6 cI cB hP1 P1]) (w3 cI cB hM M0 ++ [k5_0 cI cB hP1 P1, k5_1 cI cB hP1 P1, k5_2 cI cB hP1 P1, k5_3 cI cB hP1 P1, k5_5 cI cB hP1 P1, k5_6 cI cB hP1 P1]) := by
  refine zofV (cc := cX3_search) (maxL := 2) (ret := none) (by decide +kernel) rfl (Nat.le_of_ble_eq_true rfl) ?_
  intro p e s m below meth c A ls hx hb hml hr hown hts hlocks hK hP hD hS hA hl
  have hl : lv_has ls 2 [(0, .ref (hM 0)), (1, .ref (hP1 0))] := hl
  have hown : s.vm.findClass RX3 = some m.cls := hown
  have hG : ∀ w ∈ wG, w ∈ ww_X3_search := fun w h => List.mem_cons_of_mem _ h
  have hi3 : ∀ w ∈ wsX30, w ∈ ww_X3_search := fun w h => List.mem_cons_of_mem _ (z_inX3 w h)
  unfold f_X3_search at hf
  refine lv_aload_n hx hb dX3_search_0 rfl (lv_at hl 0 rfl) ?_
  refine lv_sipush (v := 2991) hx hb dX3_search_1 (by decide) ?_
  obtain ⟨M_1, e_M_1, hf⟩ := zv_some hf
  refine va_put (D := D) (ci := 3) (v := .int 2991) (ty := .int) (C := RX3) (T := TX3) (N := 6) hx hb hts hi3 tyX3 tyX3_ok nmX3 hown hK hP hD hS 0 rfl rfl 2 (Nat.le_of_ble_eq_true rfl) (hts _ (List.mem_cons_of_mem _ wd_137)) (fun _ h9 => h9) rfl (by decide +kernel) rfl rfl (Nat.le_of_ble_eq_true rfl) dX3_search_4 (fun H locs hP hD hS => ?_)
  have hP : va_P D vwCl (w3 cI cB hM (zs M 2 (fun _ => 2991)) ++ [k5_0 cI cB hP1 P1, k5_1 cI cB hP1 P1, k5_2 cI cB hP1 P1, k5_3 cI cB hP1 P1, k5_5 cI cB hP1 P1, k5_6 cI cB hP1 P1]) H := hP
  have hD : va_D A (w3 cI cB hM (zs M 2 (fun _ => 2991)) ++ [k5_0 cI cB hP1 P1, k5_1 cI cB hP1 P1, k5_2 cI cB hP1 P1, k5_3 cI cB hP1 P1, k5_5 cI cB hP1 P1, k5_6 cI cB hP1 P1]) := hD
  rw [← e_M_1] at hP hD
  refine lv_aload_n hx hb dX3_search_7 rfl (lv_at hl 0 rfl) ?_
  refine lv_iconst (v := 0) hx hb dX3_search_8 (by decide) ?_
  obtain ⟨M_2, e_M_2, hf⟩ := zv_some hf
  refine va_put (D := D) (ci := 3) (v := .int 0) (ty := .int) (C := RX3) (T := TX3) (N := 6) hx hb hts hi3 tyX3 tyX3_ok nmX3 hown hK hP hD hS 0 rfl rfl 5 (Nat.le_of_ble_eq_true rfl) (hts _ (List.mem_cons_of_mem _ wd_141)) (fun _ h9 => h9) rfl (by decide +kernel) rfl rfl (Nat.le_of_ble_eq_true rfl) dX3_search_9 (fun H locs hP hD hS => ?_)
  have hP : va_P D vwCl (w3 cI cB hM (zs M_1 5 (fun _ => 0)) ++ [k5_0 cI cB hP1 P1, k5_1 cI cB hP1 P1, k5_2 cI cB hP1 P1, k5_3 cI cB hP1 P1, k5_5 cI cB hP1 P1, k5_6 cI cB hP1 P1]) H := hP
  have hD : va_D A (w3 cI cB hM (zs M_1 5 (fun _ => 0)) ++ [k5_0 cI cB hP1 P1, k5_1 cI cB hP1 P1, k5_2 cI cB hP1 P1, k5_3 cI cB hP1 P1, k5_5 cI cB hP1 P1, k5_6 cI cB hP1 P1]) := hD
  rw [← e_M_2] at hP hD
  refine lv_aload_n hx hb dX3_search_12 rfl (lv_at hl 0 rfl) ?_
  refine lv_aload_n hx hb dX3_search_13 rfl (lv_at hl 1 rfl) ?_
  refine lv_iconst (v := 0) hx hb dX3_search_14 (by decide) ?_
  refine lv_iconst (v := 0) hx hb dX3_search_15 (by decide) ?_
  obtain ⟨M_3, hq4, hf⟩ := zb1_some hf
  refine zcallVv (ws2 := (w3 cI cB hM M_3 ++ [k5_0 cI cB hP1 P1, k5_1 cI cB hP1 P1, k5_2 cI cB hP1 P1, k5_3 cI cB hP1 P1, k5_5 cI cB hP1 P1, k5_6 cI cB hP1 P1])) (rest := []) ⟨hx, hb, hml, hown, hts⟩ (C_X3_tryPlace l D cI cB 9 hM hP1 M_2 P1 0 0 M_3 hq4) (cwV 3 hts (z_gV hG wd_507 wd_509 wd_s12 wd_8 wd_510) rfl rfl rfl q_X3_tryPlace ⟨Nat.le_of_ble_eq_true rfl, Nat.le_of_ble_eq_true rfl⟩) hK hP hD hS hA 3 rfl rfl rfl [0, 1, 2, 3, 4, 5, 6, 7, 8, 9] [] rfl rfl rfl rfl rfl rfl rfl hl.1 (Nat.le_of_ble_eq_true rfl) dX3_search_16 ⟨Nat.zero_le _, Nat.zero_le _⟩ rfl (fun H locs hP hD hS => ?_)
  refine lv_aload_n hx hb dX3_search_19 rfl (lv_at hl 0 rfl) ?_
  refine lv_iconst (v := 1) hx hb dX3_search_20 (by decide) ?_
  obtain ⟨M_5, e_M_5, hf⟩ := zv_some hf
  refine va_put (D := D) (ci := 3) (v := .int 1) (ty := .boolean) (C := RX3) (T := TX3) (N := 6) hx hb hts hi3 tyX3 tyX3_ok nmX3 hown hK hP hD hS 0 rfl rfl 1 (Nat.le_of_ble_eq_true rfl) (hts _ (List.mem_cons_of_mem _ wd_135)) (fun _ h9 => h9) rfl (by decide +kernel) rfl rfl (Nat.le_of_ble_eq_true rfl) dX3_search_21 (fun H locs hP hD hS => ?_)
  have hP : va_P D vwCl (w3 cI cB hM (zs M_3 1 (fun _ => 1)) ++ [k5_0 cI cB hP1 P1, k5_1 cI cB hP1 P1, k5_2 cI cB hP1 P1, k5_3 cI cB hP1 P1, k5_5 cI cB hP1 P1, k5_6 cI cB hP1 P1]) H := hP
  have hD : va_D A (w3 cI cB hM (zs M_3 1 (fun _ => 1)) ++ [k5_0 cI cB hP1 P1, k5_1 cI cB hP1 P1, k5_2 cI cB hP1 P1, k5_3 cI cB hP1 P1, k5_5 cI cB hP1 P1, k5_6 cI cB hP1 P1]) := hD
  rw [← e_M_5] at hP hD
  cases hf
  exact zretV hx hb hr hlocks hK hP hD hS dX3_search_24
abbrev ww_X0_findsBolts : List Cond := Cond.code yX0_findsBolts cX0_findsBolts 6 (some .boolean) :: wG
theorem q_X0_findsBolts : yX0_findsBolts.cls = RX0 ∧ yX0_findsBolts.cls ≠ "java/lang/invoke/MethodHandle" ∧ yX0_findsBolts.cls ≠ "java/lang/invoke/VarHandle" ∧ (parseMethodDescriptor yX0_findsBolts.desc).map (fun d => d.parameters.length) = some 4 := by decide +kernel
def f_X0_findsRest (rec : zMm → zMm → zMm → Int32 → Int32 → Option (Int32 × zMm)) (M : zMm) (P1 : zMm) (P2 : zMm) (a3 : Int32) (a4 : Int32) : Option (Int32 × zMm) := zl 7 (M 0) a3 (fun v1 => zl 7 (M 1) v1 (fun v2 => zl 7 (P2 0) a3 (fun v3 => if (v2 + v3) ≤ (P1 11 0) then zl 7 (M 1) v1 (fun v5 => zl 7 (P2 0) a3 (fun v6 => zw 7 M 1 v1 (v5 + v6) (fun M_7 => zv (if a4 < (v1 + 1) then (v1 + 1) else a4) (fun (x8 : Int32) => zb2 (rec M_7 P1 P2 (a3 + 1) x8) (fun (r9 : Int32) (M_10 : zMm) => zl 7 (M_10 1) v1 (fun v12 => zl 7 (P2 0) a3 (fun v13 => zw 7 M_10 1 v1 (v12 - v13) (fun M_14 => zo r9 (some (r9, M_14)))))))))) else some ((0 : Int32), M))))
abbrev ww_X0_findsRest : List Cond := Cond.code yX0_findsRest cX0_findsRest 7 (some .boolean) :: wG
theorem q_X0_findsRest : yX0_findsRest.cls = RX0 ∧ yX0_findsRest.cls ≠ "java/lang/invoke/MethodHandle" ∧ yX0_findsRest.cls ≠ "java/lang/invoke/VarHandle" ∧ (parseMethodDescriptor yX0_findsRest.desc).map (fun d => d.parameters.length) = some 4 := by decide +kernel
set_option maxHeartbeats 4000000 in
set_option maxRecDepth 100000 in
theorem c_X0_findsRest (l : Launch) (D : va_G) (cI cB : ClassId) (dd : Nat) (rec : zMm → zMm → zMm → Int32 → Int32 → Option (Int32 × zMm)) (hrec : ∀ (hM hP1 hP2 : Nat → Nat) (M P1 P2 : zMm) (a3 a4 : Int32) (r0 : Int32) (M0 : zMm), rec M P1 P2 a3 a4 = some (r0, M0) → zMi l yX0_findsBolts ww_X0_findsBolts ({ frames := 2 * dd + 4, cells := 0, slots := 0, locals := 60 * dd + 120 } : Room) D cI cB [.ref (hM 0), .ref (hP1 0), .ref (hP2 0), .int a3, .int a4] (w0 cI cB hM M ++ [k5_0 cI cB hP1 P1] ++ wA7 cI cB hP2 P2) r0 (w0 cI cB hM M0 ++ [k5_0 cI cB hP1 P1] ++ wA7 cI cB hP2 P2)) (hM : Nat → Nat) (hP1 : Nat → Nat) (hP2 : Nat → Nat) (M : zMm) (P1 : zMm) (P2 : zMm) (a3 : Int32) (a4 : Int32) (r0 : Int32) (M0 : zMm) (hf : f_X0_findsRest rec M P1 P2 a3 a4 = some (r0, M0)) : zMi l yX0_findsRest ww_X0_findsRest ({ frames := 2 * dd + 5, cells := 0, slots := 0, locals := 60 * dd + 150 } : Room) D cI cB [.ref (hM 0), .ref (hP1 0), .ref (hP2 0), .int a3, .int a4] (w0 cI cB hM M ++ [k5_0 cI cB hP1 P1] ++ wA7 cI cB hP2 P2) r0 (w0 cI cB hM M0 ++ [k5_0 cI cB hP1 P1] ++ wA7 cI cB hP2 P2) := by
  refine zofI (cc := cX0_findsRest) (maxL := 7) (ret := (some .boolean)) (by decide +kernel) rfl (Nat.le_of_ble_eq_true rfl) ?_
  intro p e s m below meth c A ls hx hb hml hr hown hts hlocks hK hP hD hS hA hl
  have hl : lv_has ls 7 [(0, .ref (hM 0)), (1, .ref (hP1 0)), (2, .ref (hP2 0)), (3, .int a3), (4, .int a4)] := hl
  have hown : s.vm.findClass RX0 = some m.cls := hown
  have hG : ∀ w ∈ wG, w ∈ ww_X0_findsRest := fun w h => List.mem_cons_of_mem _ h
  have hi0 : ∀ w ∈ wsX00, w ∈ ww_X0_findsRest := fun w h => List.mem_cons_of_mem _ (z_inX0 w h)
  have hi5 : ∀ w ∈ wsX50, w ∈ ww_X0_findsRest := fun w h => List.mem_cons_of_mem _ (z_inX5 w h)
  unfold f_X0_findsRest at hf
  refine lv_aload_n hx hb dX0_findsRest_0 rfl (lv_at hl 0 rfl) ?_
  refine va_get (D := D) (ci := 0) (v := .ref (hM 1)) (C := RX0) (T := TX0) (N := 3) hx hb hts hi0 hown hK hP 0 rfl rfl 0 (Nat.le_of_ble_eq_true rfl) (hts _ (List.mem_cons_of_mem _ wd_161)) (fun _ h9 => h9) rfl dX0_findsRest_1 ?_
  refine lv_iload_n hx hb dX0_findsRest_4 rfl (lv_at hl 3 rfl) ?_
  obtain ⟨i_v1, v1, e_v1, hf⟩ := zl_some hf
  refine va_iald (n := 7) (f := M 0) (cA := cI) hx hb hK hP 1 0 rfl rfl i_v1 dX0_findsRest_5 ?_
  refine zt e_v1 ?_
  refine lv_istore (lv' := [(5, .int v1), (0, .ref (hM 0)), (1, .ref (hP1 0)), (2, .ref (hP2 0)), (3, .int a3), (4, .int a4)]) hx hb dX0_findsRest_6 hl (by decide) rfl (fun ls hl => ?_)
  refine lv_aload_n hx hb dX0_findsRest_8 rfl (lv_at hl 1 rfl) ?_
  refine va_get (D := D) (ci := 0) (v := .ref (hM 2)) (C := RX0) (T := TX0) (N := 3) hx hb hts hi0 hown hK hP 0 rfl rfl 1 (Nat.le_of_ble_eq_true rfl) (hts _ (List.mem_cons_of_mem _ wd_163)) (fun _ h9 => h9) rfl dX0_findsRest_9 ?_
  refine lv_iload hx hb dX0_findsRest_12 (lv_at hl 0 rfl) ?_
  obtain ⟨i_v2, v2, e_v2, hf⟩ := zl_some hf
  refine va_iald (n := 7) (f := M 1) (cA := cI) hx hb hK hP 2 0 rfl rfl i_v2 dX0_findsRest_14 ?_
  refine zt e_v2 ?_
  refine lv_aload_n hx hb dX0_findsRest_15 rfl (lv_at hl 3 rfl) ?_
  refine lv_iload_n hx hb dX0_findsRest_16 rfl (lv_at hl 4 rfl) ?_
  obtain ⟨i_v3, v3, e_v3, hf⟩ := zl_some hf
  refine va_iald (n := 7) (f := P2 0) (cA := cI) hx hb hK hP 4 0 rfl rfl i_v3 dX0_findsRest_17 ?_
  refine zt e_v3 ?_
  refine lv_iadd hx hb dX0_findsRest_18 ?_
  refine lv_aload_n hx hb dX0_findsRest_19 rfl (lv_at hl 2 rfl) ?_
  refine va_get (D := D) (ci := 5) (v := .int (P1 11 0)) (C := RX5) (T := TX5) (N := 12) hx hb hts hi5 hown hK hP 3 rfl rfl 11 (Nat.le_of_ble_eq_true rfl) (hts _ (List.mem_cons_of_mem _ wd_205)) (fun _ h9 => h9) rfl dX0_findsRest_20 ?_
  refine lv_icmp_le (tgt := 28) hx hb dX0_findsRest_23 (by decide) (fun c_4 => ?_) (fun c_4 => ?_)
  · replace hf := zit c_4 hf
    refine lv_aload_n hx hb dX0_findsRest_28 rfl (lv_at hl 1 rfl) ?_
    refine va_get (D := D) (ci := 0) (v := .ref (hM 2)) (C := RX0) (T := TX0) (N := 3) hx hb hts hi0 hown hK hP 0 rfl rfl 1 (Nat.le_of_ble_eq_true rfl) (hts _ (List.mem_cons_of_mem _ wd_163)) (fun _ h9 => h9) rfl dX0_findsRest_29 ?_
    refine lv_iload hx hb dX0_findsRest_32 (lv_at hl 0 rfl) ?_
    refine lv_dup2_11 hx hb dX0_findsRest_34 rfl rfl ?_
    obtain ⟨i_v5, v5, e_v5, hf⟩ := zl_some hf
    refine va_iald (n := 7) (f := M 1) (cA := cI) hx hb hK hP 2 0 rfl rfl i_v5 dX0_findsRest_35 ?_
    refine zt e_v5 ?_
    refine lv_aload_n hx hb dX0_findsRest_36 rfl (lv_at hl 3 rfl) ?_
    refine lv_iload_n hx hb dX0_findsRest_37 rfl (lv_at hl 4 rfl) ?_
    obtain ⟨i_v6, v6, e_v6, hf⟩ := zl_some hf
    refine va_iald (n := 7) (f := P2 0) (cA := cI) hx hb hK hP 4 0 rfl rfl i_v6 dX0_findsRest_38 ?_
    refine zt e_v6 ?_
    refine lv_iadd hx hb dX0_findsRest_39 ?_
    obtain ⟨i_M_7, M_7, e_M_7, hf⟩ := zw_some hf
    refine va_iast (n := 7) (f := M 1) (cA := cI) hx hb hK hP hD hS 2 0 rfl rfl i_M_7 dX0_findsRest_40 (fun H locs hP hD hS => ?_)
    have hP : va_P D vwCl (w0 cI cB hM (zs M 1 (upd (M 1) v1.toNatClampNeg (v5 + v6))) ++ [k5_0 cI cB hP1 P1] ++ wA7 cI cB hP2 P2) H := hP
    have hD : va_D A (w0 cI cB hM (zs M 1 (upd (M 1) v1.toNatClampNeg (v5 + v6))) ++ [k5_0 cI cB hP1 P1] ++ wA7 cI cB hP2 P2) := hD
    rw [← e_M_7] at hP hD
    refine lv_aload_n hx hb dX0_findsRest_41 rfl (lv_at hl 1 rfl) ?_
    refine lv_aload_n hx hb dX0_findsRest_42 rfl (lv_at hl 2 rfl) ?_
    refine lv_aload_n hx hb dX0_findsRest_43 rfl (lv_at hl 3 rfl) ?_
    refine lv_iload_n hx hb dX0_findsRest_44 rfl (lv_at hl 4 rfl) ?_
    refine lv_iconst (v := 1) hx hb dX0_findsRest_45 (by decide) ?_
    refine lv_iadd hx hb dX0_findsRest_46 ?_
    refine lv_iload hx hb dX0_findsRest_47 (lv_at hl 5 rfl) ?_
    refine lv_iload hx hb dX0_findsRest_49 (lv_at hl 0 rfl) ?_
    refine lv_iconst (v := 1) hx hb dX0_findsRest_51 (by decide) ?_
    refine lv_iadd hx hb dX0_findsRest_52 ?_
    obtain ⟨x8, e_x8, hf⟩ := zv_some hf
    refine va_mmax hx hb (hml.trans hl.1.symm) hown (hts _ (List.mem_cons_of_mem _ wd_592)) (hts _ (List.mem_cons_of_mem _ wd_70)) (hts _ (List.mem_cons_of_mem _ wd_5)) (hts _ (List.mem_cons_of_mem _ wd_71)) (by dsimp only; omega) (Nat.le_trans (Nat.le_of_ble_eq_true rfl : _ ≤ 21) (by dsimp only; omega)) (Nat.zero_le _) (Nat.zero_le _) dX0_findsRest_53 ?_
    refine zt e_x8 ?_
    obtain ⟨r9, M_10, hq11, hf⟩ := zb2_some hf
    refine zcallVi (ws2 := (w0 cI cB hM M_10 ++ [k5_0 cI cB hP1 P1] ++ wA7 cI cB hP2 P2)) (rest := []) ⟨hx, hb, hml, hown, hts⟩ (hrec hM hP1 hP2 M_7 P1 P2 (a3 + 1) x8 r9 M_10 hq11) (cwV 4 hts (z_gV hG wd_584 wd_586 wd_s18 wd_9 wd_587) rfl rfl rfl q_X0_findsBolts ⟨by dsimp only; omega, by dsimp only; omega⟩) hK hP hD hS hA 0 rfl rfl rfl [0, 1, 2, 3, 4] [] rfl rfl rfl rfl rfl rfl rfl hl.1 (Nat.le_of_ble_eq_true rfl) dX0_findsRest_56 ⟨Nat.zero_le _, Nat.zero_le _⟩ rfl (fun H locs hP hD hS => ?_)
    refine lv_istore (lv' := [(6, .int r9), (5, .int v1), (0, .ref (hM 0)), (1, .ref (hP1 0)), (2, .ref (hP2 0)), (3, .int a3), (4, .int a4)]) hx hb dX0_findsRest_59 hl (by decide) rfl (fun ls hl => ?_)
    refine lv_aload_n hx hb dX0_findsRest_61 rfl (lv_at hl 2 rfl) ?_
    refine va_get (D := D) (ci := 0) (v := .ref (hM 2)) (C := RX0) (T := TX0) (N := 3) hx hb hts hi0 hown hK hP 0 rfl rfl 1 (Nat.le_of_ble_eq_true rfl) (hts _ (List.mem_cons_of_mem _ wd_163)) (fun _ h9 => h9) rfl dX0_findsRest_62 ?_
    refine lv_iload hx hb dX0_findsRest_65 (lv_at hl 1 rfl) ?_
    refine lv_dup2_11 hx hb dX0_findsRest_67 rfl rfl ?_
    obtain ⟨i_v12, v12, e_v12, hf⟩ := zl_some hf
    refine va_iald (n := 7) (f := M_10 1) (cA := cI) hx hb hK hP 2 0 rfl rfl i_v12 dX0_findsRest_68 ?_
    refine zt e_v12 ?_
    refine lv_aload_n hx hb dX0_findsRest_69 rfl (lv_at hl 4 rfl) ?_
    refine lv_iload_n hx hb dX0_findsRest_70 rfl (lv_at hl 5 rfl) ?_
    obtain ⟨i_v13, v13, e_v13, hf⟩ := zl_some hf
    refine va_iald (n := 7) (f := P2 0) (cA := cI) hx hb hK hP 4 0 rfl rfl i_v13 dX0_findsRest_71 ?_
    refine zt e_v13 ?_
    refine lv_isub hx hb dX0_findsRest_72 ?_
    obtain ⟨i_M_14, M_14, e_M_14, hf⟩ := zw_some hf
    refine va_iast (n := 7) (f := M_10 1) (cA := cI) hx hb hK hP hD hS 2 0 rfl rfl i_M_14 dX0_findsRest_73 (fun H locs hP hD hS => ?_)
    have hP : va_P D vwCl (w0 cI cB hM (zs M_10 1 (upd (M_10 1) v1.toNatClampNeg (v12 - v13))) ++ [k5_0 cI cB hP1 P1] ++ wA7 cI cB hP2 P2) H := hP
    have hD : va_D A (w0 cI cB hM (zs M_10 1 (upd (M_10 1) v1.toNatClampNeg (v12 - v13))) ++ [k5_0 cI cB hP1 P1] ++ wA7 cI cB hP2 P2) := hD
    rw [← e_M_14] at hP hD
    refine lv_iload hx hb dX0_findsRest_74 (lv_at hl 0 rfl) ?_
    obtain ⟨hn, hf⟩ := zo_some hf
    cases hf
    exact zretB hx hb hr hlocks hn hK hP hD hS dX0_findsRest_76
  · replace hf := zif c_4 hf
    refine lv_iconst (v := 0) hx hb dX0_findsRest_26 (by decide) ?_
    cases hf
    exact zretB hx hb hr hlocks rfl hK hP hD hS dX0_findsRest_27
def L_X0_findsBolts_13 (rec : zMm → zMm → zMm → Int32 → Int32 → Option (Int32 × zMm)) (P1 : zMm) (P2 : zMm) (l3 : Int32) (l4 : Int32) : Nat → Int32 → zMm → Option (Int32 × zMm)
  | 0, _, _ => none
  | n + 1, l5, M => if l4 < l5 then some ((0 : Int32), M) else if (M 2 0) ≤ l5 then some ((0 : Int32), M) else zw 7 M 0 l3 l5 (fun M_4 => zb2 (f_X0_findsRest rec M_4 P1 P2 l3 l4) (fun (r5 : Int32) (M_6 : zMm) => if r5 = 0 then zv (l5 + 1) (fun (x9 : Int32) => L_X0_findsBolts_13 rec P1 P2 l3 l4 n x9 M_6) else some ((1 : Int32), M_6)))
def f_X0_findsBolts (rec : zMm → zMm → zMm → Int32 → Int32 → Option (Int32 × zMm)) (M : zMm) (P1 : zMm) (P2 : zMm) (a3 : Int32) (a4 : Int32) : Option (Int32 × zMm) := if a3 < (P1 7 0) then L_X0_findsBolts_13 rec P1 P2 a3 a4 100000 0 M else some ((1 : Int32), M)
set_option maxHeartbeats 4000000 in
set_option maxRecDepth 100000 in
theorem c_X0_findsBolts (l : Launch) (D : va_G) (cI cB : ClassId) (dd : Nat) (rec : zMm → zMm → zMm → Int32 → Int32 → Option (Int32 × zMm)) (hrec : ∀ (hM hP1 hP2 : Nat → Nat) (M P1 P2 : zMm) (a3 a4 : Int32) (r0 : Int32) (M0 : zMm), rec M P1 P2 a3 a4 = some (r0, M0) → zMi l yX0_findsBolts ww_X0_findsBolts ({ frames := 2 * dd + 4, cells := 0, slots := 0, locals := 60 * dd + 120 } : Room) D cI cB [.ref (hM 0), .ref (hP1 0), .ref (hP2 0), .int a3, .int a4] (w0 cI cB hM M ++ [k5_0 cI cB hP1 P1] ++ wA7 cI cB hP2 P2) r0 (w0 cI cB hM M0 ++ [k5_0 cI cB hP1 P1] ++ wA7 cI cB hP2 P2)) (hM : Nat → Nat) (hP1 : Nat → Nat) (hP2 : Nat → Nat) (M : zMm) (P1 : zMm) (P2 : zMm) (a3 : Int32) (a4 : Int32) (r0 : Int32) (M0 : zMm) (hf : f_X0_findsBolts rec M P1 P2 a3 a4 = some (r0, M0)) : zMi l yX0_findsBolts ww_X0_findsBolts ({ frames := 2 * dd + 6, cells := 0, slots := 0, locals := 60 * dd + 180 } : Room) D cI cB [.ref (hM 0), .ref (hP1 0), .ref (hP2 0), .int a3, .int a4] (w0 cI cB hM M ++ [k5_0 cI cB hP1 P1] ++ wA7 cI cB hP2 P2) r0 (w0 cI cB hM M0 ++ [k5_0 cI cB hP1 P1] ++ wA7 cI cB hP2 P2) := by
  refine zofI (cc := cX0_findsBolts) (maxL := 6) (ret := (some .boolean)) (by decide +kernel) rfl (Nat.le_of_ble_eq_true rfl) ?_
  intro p e s m below meth c A ls hx hb hml hr hown hts hlocks hK hP hD hS hA hl
  have hl : lv_has ls 6 [(0, .ref (hM 0)), (1, .ref (hP1 0)), (2, .ref (hP2 0)), (3, .int a3), (4, .int a4)] := hl
  have hown : s.vm.findClass RX0 = some m.cls := hown
  have hG : ∀ w ∈ wG, w ∈ ww_X0_findsBolts := fun w h => List.mem_cons_of_mem _ h
  have hi0 : ∀ w ∈ wsX00, w ∈ ww_X0_findsBolts := fun w h => List.mem_cons_of_mem _ (z_inX0 w h)
  have hi5 : ∀ w ∈ wsX50, w ∈ ww_X0_findsBolts := fun w h => List.mem_cons_of_mem _ (z_inX5 w h)
  have L13 : ∀ (P1 : zMm) (P2 : zMm) (l3 : Int32) (l4 : Int32) (n : Nat) (l5 : Int32) (M : zMm), L_X0_findsBolts_13 rec P1 P2 l3 l4 n l5 M = some (r0, M0) → zAt p l e ({ frames := 2 * dd + 6, cells := 0, slots := 0, locals := 60 * dd + 180 } : Room) s m [.ref (hM 0), .ref (hP1 0), .ref (hP2 0), .int a3, .int a4].toArray below meth c (MQ below (zQi D cI cB r0 (w0 cI cB hM M0 ++ [k5_0 cI cB hP1 P1] ++ wA7 cI cB hP2 P2) A) [.ref (hM 0), .ref (hP1 0), .ref (hP2 0), .int a3, .int a4].toArray s 0 0 A) A D 6 (w0 cI cB hM M ++ [k5_0 cI cB hP1 P1] ++ wA7 cI cB hP2 P2) [(0, .ref (hM 0)), (1, .ref (hP1 0)), (2, .ref (hP2 0)), (3, .int l3), (4, .int l4), (5, .int l5)] 13 [] := by
    intro P1 P2 l3 l4 n
    induction n with
    | zero => intro l5 M hf; simp [L_X0_findsBolts_13] at hf
    | succ n ih =>
      intro l5 M hf H locs ls hP hD hS hl
      rw [L_X0_findsBolts_13] at hf
      refine lv_iload hx hb dX0_findsBolts_13 (lv_at hl 5 rfl) ?_
      refine lv_iload hx hb dX0_findsBolts_15 (lv_at hl 4 rfl) ?_
      refine lv_icmp_gt (tgt := 57) hx hb dX0_findsBolts_17 (by decide) (fun c_2 => ?_) (fun c_2 => ?_)
      · replace hf := zit c_2 hf
        refine lv_iconst (v := 0) hx hb dX0_findsBolts_57 (by decide) ?_
        cases hf
        exact zretB hx hb hr hlocks rfl hK hP hD hS dX0_findsBolts_58
      · replace hf := zif c_2 hf
        refine lv_iload hx hb dX0_findsBolts_20 (lv_at hl 5 rfl) ?_
        refine lv_aload_n hx hb dX0_findsBolts_22 rfl (lv_at hl 0 rfl) ?_
        refine va_get (D := D) (ci := 0) (v := .int (M 2 0)) (C := RX0) (T := TX0) (N := 3) hx hb hts hi0 hown hK hP 0 rfl rfl 2 (Nat.le_of_ble_eq_true rfl) (hts _ (List.mem_cons_of_mem _ wd_164)) (fun _ h9 => h9) rfl dX0_findsBolts_23 ?_
        refine lv_icmp_ge (tgt := 57) hx hb dX0_findsBolts_26 (by decide) (fun c_3 => ?_) (fun c_3 => ?_)
        · replace hf := zit c_3 hf
          refine lv_iconst (v := 0) hx hb dX0_findsBolts_57 (by decide) ?_
          cases hf
          exact zretB hx hb hr hlocks rfl hK hP hD hS dX0_findsBolts_58
        · replace hf := zif c_3 hf
          refine lv_aload_n hx hb dX0_findsBolts_29 rfl (lv_at hl 0 rfl) ?_
          refine va_get (D := D) (ci := 0) (v := .ref (hM 1)) (C := RX0) (T := TX0) (N := 3) hx hb hts hi0 hown hK hP 0 rfl rfl 0 (Nat.le_of_ble_eq_true rfl) (hts _ (List.mem_cons_of_mem _ wd_161)) (fun _ h9 => h9) rfl dX0_findsBolts_30 ?_
          refine lv_iload_n hx hb dX0_findsBolts_33 rfl (lv_at hl 3 rfl) ?_
          refine lv_iload hx hb dX0_findsBolts_34 (lv_at hl 5 rfl) ?_
          obtain ⟨i_M_4, M_4, e_M_4, hf⟩ := zw_some hf
          refine va_iast (n := 7) (f := M 0) (cA := cI) hx hb hK hP hD hS 1 0 rfl rfl i_M_4 dX0_findsBolts_36 (fun H locs hP hD hS => ?_)
          have hP : va_P D vwCl (w0 cI cB hM (zs M 0 (upd (M 0) l3.toNatClampNeg l5)) ++ [k5_0 cI cB hP1 P1] ++ wA7 cI cB hP2 P2) H := hP
          have hD : va_D A (w0 cI cB hM (zs M 0 (upd (M 0) l3.toNatClampNeg l5)) ++ [k5_0 cI cB hP1 P1] ++ wA7 cI cB hP2 P2) := hD
          rw [← e_M_4] at hP hD
          refine lv_aload_n hx hb dX0_findsBolts_37 rfl (lv_at hl 0 rfl) ?_
          refine lv_aload_n hx hb dX0_findsBolts_38 rfl (lv_at hl 1 rfl) ?_
          refine lv_aload_n hx hb dX0_findsBolts_39 rfl (lv_at hl 2 rfl) ?_
          refine lv_iload_n hx hb dX0_findsBolts_40 rfl (lv_at hl 3 rfl) ?_
          refine lv_iload hx hb dX0_findsBolts_41 (lv_at hl 4 rfl) ?_
          obtain ⟨r5, M_6, hq7, hf⟩ := zb2_some hf
          refine zcallVi (ws2 := (w0 cI cB hM M_6 ++ [k5_0 cI cB hP1 P1] ++ wA7 cI cB hP2 P2)) (rest := []) ⟨hx, hb, hml, hown, hts⟩ (c_X0_findsRest l D cI cB dd rec hrec hM hP1 hP2 M_4 P1 P2 l3 l4 r5 M_6 hq7) (cwV 4 hts (z_gV hG wd_588 wd_590 wd_s19 wd_9 wd_591) rfl rfl rfl q_X0_findsRest ⟨by dsimp only; omega, by dsimp only; omega⟩) hK hP hD hS hA 0 rfl rfl rfl [0, 1, 2, 3, 4] [] rfl rfl rfl rfl rfl rfl rfl hl.1 (Nat.le_of_ble_eq_true rfl) dX0_findsBolts_43 ⟨Nat.zero_le _, Nat.zero_le _⟩ rfl (fun H locs hP hD hS => ?_)
          refine lv_if_eq (tgt := 51) hx hb dX0_findsBolts_46 (by decide) (fun c_8 => ?_) (fun c_8 => ?_)
          · replace hf := zit c_8 hf
            obtain ⟨x9, e_x9, hf⟩ := zv_some hf
            refine lv_iinc (v := x9) (lv' := [(5, .int x9), (0, .ref (hM 0)), (1, .ref (hP1 0)), (2, .ref (hP2 0)), (3, .int l3), (4, .int l4)]) hx hb dX0_findsBolts_51 hl (k := 5) rfl (by rw [e_x9]; rfl) (by decide) rfl (fun ls hl => ?_)
            refine lv_goto (tgt := 13) hx hb dX0_findsBolts_54 (by decide) ?_
            exact ih _ _ hf _ _ _ hP hD hS (lv_sub hl [1, 2, 3, 4, 5, 0] rfl)
          · replace hf := zif c_8 hf
            refine lv_iconst (v := 1) hx hb dX0_findsBolts_49 (by decide) ?_
            cases hf
            exact zretB hx hb hr hlocks rfl hK hP hD hS dX0_findsBolts_50
  unfold f_X0_findsBolts at hf
  refine lv_iload_n hx hb dX0_findsBolts_0 rfl (lv_at hl 3 rfl) ?_
  refine lv_aload_n hx hb dX0_findsBolts_1 rfl (lv_at hl 1 rfl) ?_
  refine va_get (D := D) (ci := 5) (v := .int (P1 7 0)) (C := RX5) (T := TX5) (N := 12) hx hb hts hi5 hown hK hP 3 rfl rfl 7 (Nat.le_of_ble_eq_true rfl) (hts _ (List.mem_cons_of_mem _ wd_193)) (fun _ h9 => h9) rfl dX0_findsBolts_2 ?_
  refine lv_icmp_lt (tgt := 10) hx hb dX0_findsBolts_5 (by decide) (fun c_1 => ?_) (fun c_1 => ?_)
  · replace hf := zit c_1 hf
    refine lv_iconst (v := 0) hx hb dX0_findsBolts_10 (by decide) ?_
    refine lv_istore (lv' := [(5, .int 0), (0, .ref (hM 0)), (1, .ref (hP1 0)), (2, .ref (hP2 0)), (3, .int a3), (4, .int a4)]) hx hb dX0_findsBolts_11 hl (by decide) rfl (fun ls hl => ?_)
    exact L13 _ _ _ _ _ _ _ hf _ _ _ hP hD hS (lv_sub hl [1, 2, 3, 4, 5, 0] rfl)
  · replace hf := zif c_1 hf
    refine lv_iconst (v := 1) hx hb dX0_findsBolts_8 (by decide) ?_
    cases hf
    exact zretB hx hb hr hlocks rfl hK hP hD hS dX0_findsBolts_9
def F_X0_findsBolts : Nat → zMm → zMm → zMm → Int32 → Int32 → Option (Int32 × zMm)
  | 0 => fun _ _ _ _ _ => none
  | d + 1 => f_X0_findsBolts (F_X0_findsBolts d)
theorem C_X0_findsBolts (l : Launch) (D : va_G) (cI cB : ClassId) : ∀ (dd : Nat) (hM hP1 hP2 : Nat → Nat) (M P1 P2 : zMm) (a3 a4 : Int32) (r0 : Int32) (M0 : zMm), F_X0_findsBolts dd M P1 P2 a3 a4 = some (r0, M0) → zMi l yX0_findsBolts ww_X0_findsBolts ({ frames := 2 * dd + 4, cells := 0, slots := 0, locals := 60 * dd + 120 } : Room) D cI cB [.ref (hM 0), .ref (hP1 0), .ref (hP2 0), .int a3, .int a4] (w0 cI cB hM M ++ [k5_0 cI cB hP1 P1] ++ wA7 cI cB hP2 P2) r0 (w0 cI cB hM M0 ++ [k5_0 cI cB hP1 P1] ++ wA7 cI cB hP2 P2) := by
  intro dd
  induction dd with
  | zero =>
    intro hM hP1 hP2 M P1 P2 a3 a4 r0 M0 hf
    cases hf
  | succ dd ih =>
    intro hM hP1 hP2 M P1 P2 a3 a4 r0 M0 hf
    exact c_X0_findsBolts l D cI cB dd (F_X0_findsBolts dd) ih hM hP1 hP2 M P1 P2 a3 a4 r0 M0 hf
def L_X0_search_2 (P1 : zMm) (P2 : zMm)  : Nat → Int32 → zMm → Option (Int32 × zMm)
  | 0, _, _ => none
  | n + 1, l3, M => if (P1 7 0) < l3 then some (((-4) : Int32), M) else zv (zs M 2 (fun _ => l3)) (fun (M_2 : zMm) => zb2 (F_X0_findsBolts 9 M_2 P1 P2 0 0) (fun (r3 : Int32) (M_4 : zMm) => if r3 = 0 then zv (l3 + 1) (fun (x7 : Int32) => L_X0_search_2 P1 P2 n x7 M_4) else some (l3, M_4)))
def f_X0_search (M : zMm) (P1 : zMm) (P2 : zMm) : Option (Int32 × zMm) := L_X0_search_2 P1 P2 100000 1 M
abbrev ww_X0_search : List Cond := Cond.code yX0_search cX0_search 4 (some .int) :: wG
theorem q_X0_search : yX0_search.cls = RX0 ∧ yX0_search.cls ≠ "java/lang/invoke/MethodHandle" ∧ yX0_search.cls ≠ "java/lang/invoke/VarHandle" ∧ (parseMethodDescriptor yX0_search.desc).map (fun d => d.parameters.length) = some 2 := by decide +kernel
set_option maxHeartbeats 4000000 in
set_option maxRecDepth 100000 in
theorem c_X0_search (l : Launch) (D : va_G) (cI cB : ClassId) (hM : Nat → Nat) (hP1 : Nat → Nat) (hP2 : Nat → Nat) (M : zMm) (P1 : zMm) (P2 : zMm) (r0 : Int32) (M0 : zMm) (hf : f_X0_search M P1 P2 = some (r0, M0)) : zMi l yX0_search ww_X0_search ({ frames := 23, cells := 0, slots := 0, locals := 685 } : Room) D cI cB [.ref (hM 0), .ref (hP1 0), .ref (hP2 0)] (w0 cI cB hM M ++ [k5_0 cI cB hP1 P1] ++ wA7 cI cB hP2 P2) r0 (w0 cI cB hM M0 ++ [k5_0 cI cB hP1 P1] ++ wA7 cI cB hP2 P2) := by
  refine zofI (cc := cX0_search) (maxL := 4) (ret := (some .int)) (by decide +kernel) rfl (Nat.le_of_ble_eq_true rfl) ?_
  intro p e s m below meth c A ls hx hb hml hr hown hts hlocks hK hP hD hS hA hl
  have hl : lv_has ls 4 [(0, .ref (hM 0)), (1, .ref (hP1 0)), (2, .ref (hP2 0))] := hl
  have hown : s.vm.findClass RX0 = some m.cls := hown
  have hG : ∀ w ∈ wG, w ∈ ww_X0_search := fun w h => List.mem_cons_of_mem _ h
  have hi0 : ∀ w ∈ wsX00, w ∈ ww_X0_search := fun w h => List.mem_cons_of_mem _ (z_inX0 w h)
  have hi5 : ∀ w ∈ wsX50, w ∈ ww_X0_search := fun w h => List.mem_cons_of_mem _ (z_inX5 w h)
  have L2 : ∀ (P1 : zMm) (P2 : zMm)  (n : Nat) (l3 : Int32) (M : zMm), L_X0_search_2 P1 P2 n l3 M = some (r0, M0) → zAt p l e ({ frames := 23, cells := 0, slots := 0, locals := 685 } : Room) s m [.ref (hM 0), .ref (hP1 0), .ref (hP2 0)].toArray below meth c (MQ below (zQi D cI cB r0 (w0 cI cB hM M0 ++ [k5_0 cI cB hP1 P1] ++ wA7 cI cB hP2 P2) A) [.ref (hM 0), .ref (hP1 0), .ref (hP2 0)].toArray s 0 0 A) A D 4 (w0 cI cB hM M ++ [k5_0 cI cB hP1 P1] ++ wA7 cI cB hP2 P2) [(0, .ref (hM 0)), (1, .ref (hP1 0)), (2, .ref (hP2 0)), (3, .int l3)] 2 [] := by
    intro P1 P2 n
    induction n with
    | zero => intro l3 M hf; simp [L_X0_search_2] at hf
    | succ n ih =>
      intro l3 M hf H locs ls hP hD hS hl
      rw [L_X0_search_2] at hf
      refine lv_iload_n hx hb dX0_search_2 rfl (lv_at hl 3 rfl) ?_
      refine lv_aload_n hx hb dX0_search_3 rfl (lv_at hl 1 rfl) ?_
      refine va_get (D := D) (ci := 5) (v := .int (P1 7 0)) (C := RX5) (T := TX5) (N := 12) hx hb hts hi5 hown hK hP 3 rfl rfl 7 (Nat.le_of_ble_eq_true rfl) (hts _ (List.mem_cons_of_mem _ wd_193)) (fun _ h9 => h9) rfl dX0_search_4 ?_
      refine lv_icmp_gt (tgt := 34) hx hb dX0_search_7 (by decide) (fun c_1 => ?_) (fun c_1 => ?_)
      · replace hf := zit c_1 hf
        refine lv_bipush (v := (-4)) hx hb dX0_search_34 (by decide) ?_
        cases hf
        exact zretI hx hb hr hlocks hK hP hD hS dX0_search_36
      · replace hf := zif c_1 hf
        refine lv_aload_n hx hb dX0_search_10 rfl (lv_at hl 0 rfl) ?_
        refine lv_iload_n hx hb dX0_search_11 rfl (lv_at hl 3 rfl) ?_
        obtain ⟨M_2, e_M_2, hf⟩ := zv_some hf
        refine va_put (D := D) (ci := 0) (v := .int l3) (ty := .int) (C := RX0) (T := TX0) (N := 3) hx hb hts hi0 tyX0 tyX0_ok nmX0 hown hK hP hD hS 0 rfl rfl 2 (Nat.le_of_ble_eq_true rfl) (hts _ (List.mem_cons_of_mem _ wd_164)) (fun _ h9 => h9) rfl (by decide +kernel) rfl rfl (Nat.le_of_ble_eq_true rfl) dX0_search_12 (fun H locs hP hD hS => ?_)
        have hP : va_P D vwCl (w0 cI cB hM (zs M 2 (fun _ => l3)) ++ [k5_0 cI cB hP1 P1] ++ wA7 cI cB hP2 P2) H := hP
        have hD : va_D A (w0 cI cB hM (zs M 2 (fun _ => l3)) ++ [k5_0 cI cB hP1 P1] ++ wA7 cI cB hP2 P2) := hD
        rw [← e_M_2] at hP hD
        refine lv_aload_n hx hb dX0_search_15 rfl (lv_at hl 0 rfl) ?_
        refine lv_aload_n hx hb dX0_search_16 rfl (lv_at hl 1 rfl) ?_
        refine lv_aload_n hx hb dX0_search_17 rfl (lv_at hl 2 rfl) ?_
        refine lv_iconst (v := 0) hx hb dX0_search_18 (by decide) ?_
        refine lv_iconst (v := 0) hx hb dX0_search_19 (by decide) ?_
        obtain ⟨r3, M_4, hq5, hf⟩ := zb2_some hf
        refine zcallVi (ws2 := (w0 cI cB hM M_4 ++ [k5_0 cI cB hP1 P1] ++ wA7 cI cB hP2 P2)) (rest := []) ⟨hx, hb, hml, hown, hts⟩ (C_X0_findsBolts l D cI cB 9 hM hP1 hP2 M_2 P1 P2 0 0 r3 M_4 hq5) (cwV 4 hts (z_gV hG wd_584 wd_586 wd_s18 wd_9 wd_587) rfl rfl rfl q_X0_findsBolts ⟨Nat.le_of_ble_eq_true rfl, Nat.le_of_ble_eq_true rfl⟩) hK hP hD hS hA 0 rfl rfl rfl [0, 1, 2, 3, 4] [] rfl rfl rfl rfl rfl rfl rfl hl.1 (Nat.le_of_ble_eq_true rfl) dX0_search_20 ⟨Nat.zero_le _, Nat.zero_le _⟩ rfl (fun H locs hP hD hS => ?_)
        refine lv_if_eq (tgt := 28) hx hb dX0_search_23 (by decide) (fun c_6 => ?_) (fun c_6 => ?_)
        · replace hf := zit c_6 hf
          obtain ⟨x7, e_x7, hf⟩ := zv_some hf
          refine lv_iinc (v := x7) (lv' := [(3, .int x7), (0, .ref (hM 0)), (1, .ref (hP1 0)), (2, .ref (hP2 0))]) hx hb dX0_search_28 hl (k := 3) rfl (by rw [e_x7]; rfl) (by decide) rfl (fun ls hl => ?_)
          refine lv_goto (tgt := 2) hx hb dX0_search_31 (by decide) ?_
          exact ih _ _ hf _ _ _ hP hD hS (lv_sub hl [1, 2, 3, 0] rfl)
        · replace hf := zif c_6 hf
          refine lv_iload_n hx hb dX0_search_26 rfl (lv_at hl 3 rfl) ?_
          cases hf
          exact zretI hx hb hr hlocks hK hP hD hS dX0_search_27
  unfold f_X0_search at hf
  refine lv_iconst (v := 1) hx hb dX0_search_0 (by decide) ?_
  refine lv_istore_n (lv' := [(3, .int 1), (0, .ref (hM 0)), (1, .ref (hP1 0)), (2, .ref (hP2 0))]) hx hb dX0_search_1 rfl hl (by decide) rfl (fun ls hl => ?_)
  exact L2 _ _ _ _ _ hf _ _ _ hP hD hS (lv_sub hl [1, 2, 3, 0] rfl)
