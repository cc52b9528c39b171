def f_X3_isPlaced (M : zMm) (a1 : Int32) : Option (Int32) := if (((M 5 0) >>> (a1 &&& 31)) &&& 1) = 1 then some (1 : Int32) else some (0 : Int32)
abbrev ww_X3_isPlaced : List Cond := Cond.code yX3_isPlaced cX3_isPlaced 2 (some .boolean) :: wG
theorem q_X3_isPlaced : yX3_isPlaced.cls = RX3 ∧ yX3_isPlaced.cls ≠ "java/lang/invoke/MethodHandle" ∧ yX3_isPlaced.cls ≠ "java/lang/invoke/VarHandle" ∧ (parseMethodDescriptor yX3_isPlaced.desc).map (fun d => d.parameters.length) = some 1 := by decide +kernel
set_option maxHeartbeats 4000000 in
set_option maxRecDepth 100000 in
theorem c_X3_isPlaced (l : Launch) (D : va_G) (cI cB : ClassId) (hM : Nat → Nat) (M : zMm) (a1 : Int32) (r0 : Int32) (hf : f_X3_isPlaced M a1 = some r0) : zMi l yX3_isPlaced ww_X3_isPlaced ({ frames := 0, cells := 0, slots := 0, locals := 0 } : Room) D cI cB [.ref (hM 0), .int a1] [k3_0 cI cB hM M] r0 [k3_0 cI cB hM M] := by
  refine zofI (cc := cX3_isPlaced) (maxL := 2) (ret := (some .boolean)) (by decide +kernel) rfl (Nat.le_of_ble_eq_true rfl) ?_
  intro p e s m below meth c A ls hx hb hml hr hown hts hlocks hK hP hD hS hA hl
  have hl : lv_has ls 2 [(0, .ref (hM 0)), (1, .int a1)] := hl
  have hown : s.vm.findClass RX3 = some m.cls := hown
  have hG : ∀ w ∈ wG, w ∈ ww_X3_isPlaced := fun w h => List.mem_cons_of_mem _ h
  have hi3 : ∀ w ∈ wsX30, w ∈ ww_X3_isPlaced := fun w h => List.mem_cons_of_mem _ (z_inX3 w h)
  unfold f_X3_isPlaced at hf
  refine lv_aload_n hx hb dX3_isPlaced_0 rfl (lv_at hl 0 rfl) ?_
  refine va_get (D := D) (ci := 3) (v := .int (M 5 0)) (C := RX3) (T := TX3) (N := 6) hx hb hts hi3 hown hK hP 0 rfl rfl 5 (Nat.le_of_ble_eq_true rfl) (hts _ (List.mem_cons_of_mem _ wd_141)) (fun _ h9 => h9) rfl dX3_isPlaced_1 ?_
  refine lv_iload_n hx hb dX3_isPlaced_4 rfl (lv_at hl 1 rfl) ?_
  refine lv_ishr hx hb dX3_isPlaced_5 ?_
  refine lv_iconst (v := 1) hx hb dX3_isPlaced_6 (by decide) ?_
  refine lv_iand hx hb dX3_isPlaced_7 ?_
  refine lv_iconst (v := 1) hx hb dX3_isPlaced_8 (by decide) ?_
  refine lv_icmp_ne (tgt := 16) hx hb dX3_isPlaced_9 (by decide) (fun c_1 => ?_) (fun c_1 => ?_)
  · replace hf := zif c_1 hf
    refine lv_iconst (v := 0) hx hb dX3_isPlaced_16 (by decide) ?_
    cases hf
    exact zretB hx hb hr hlocks rfl hK hP hD hS dX3_isPlaced_17
  · replace hf := zit c_1 hf
    refine lv_iconst (v := 1) hx hb dX3_isPlaced_12 (by decide) ?_
    refine lv_goto (tgt := 17) hx hb dX3_isPlaced_13 (by decide) ?_
    cases hf
    exact zretB hx hb hr hlocks rfl hK hP hD hS dX3_isPlaced_17
def L_X3_gapsWithPlaced_5 (M : zMm) (P1 : zMm) (l2 : Int32) : Nat → Int32 → Int32 → Option (Int32 × Int32)
  | 0, _, _ => none
  | n + 1, l3, l4 => if (P1 8 0) ≤ l4 then some (l3, l4) else zl 10 (P1 4) l4 (fun v2 => zl 10 (P1 5) l4 (fun v3 => zb1 (if v2 = l2 then zb1 (f_X3_isPlaced M v3) (fun (r15 : Int32) => if r15 = 0 then if v3 = l2 then zb1 (f_X3_isPlaced M v2) (fun (r22 : Int32) => if r22 = 0 then some l3 else zb1 (f_X5_gapOf P1 (fun j => M (4 + j)) l4) (fun (r25 : Int32) => zv (l3 + r25) (fun (x27 : Int32) => some x27))) else some l3 else zb1 (f_X5_gapOf P1 (fun j => M (4 + j)) l4) (fun (r18 : Int32) => zv (l3 + r18) (fun (x20 : Int32) => some x20))) else if v3 = l2 then zb1 (f_X3_isPlaced M v2) (fun (r9 : Int32) => if r9 = 0 then some l3 else zb1 (f_X5_gapOf P1 (fun j => M (4 + j)) l4) (fun (r12 : Int32) => zv (l3 + r12) (fun (x14 : Int32) => some x14))) else some l3) (fun (x5 : Int32) => zv (l4 + 1) (fun (x28 : Int32) => L_X3_gapsWithPlaced_5 M P1 l2 n x5 x28))))
def f_X3_gapsWithPlaced (M : zMm) (P1 : zMm) (a2 : Int32) : Option (Int32) := zb2 (L_X3_gapsWithPlaced_5 M P1 a2 100000 0 0) (fun (x29 : Int32) (x30 : Int32) => some x29)
abbrev ww_X3_gapsWithPlaced : List Cond := Cond.code yX3_gapsWithPlaced cX3_gapsWithPlaced 7 (some .int) :: wG
theorem q_X3_gapsWithPlaced : yX3_gapsWithPlaced.cls = RX3 ∧ yX3_gapsWithPlaced.cls ≠ "java/lang/invoke/MethodHandle" ∧ yX3_gapsWithPlaced.cls ≠ "java/lang/invoke/VarHandle" ∧ (parseMethodDescriptor yX3_gapsWithPlaced.desc).map (fun d => d.parameters.length) = some 2 := by decide +kernel
set_option maxHeartbeats 4000000 in
set_option maxRecDepth 100000 in
theorem c_X3_gapsWithPlaced (l : Launch) (D : va_G) (cI cB : ClassId) (hM : Nat → Nat) (hP1 : Nat → Nat) (M : zMm) (P1 : zMm) (a2 : Int32) (r0 : Int32) (hf : f_X3_gapsWithPlaced M P1 a2 = some r0) : zMi l yX3_gapsWithPlaced ww_X3_gapsWithPlaced ({ frames := 2, cells := 0, slots := 0, locals := 43 } : Room) D cI cB [.ref (hM 0), .ref (hP1 0), .int a2] ([k3_0 cI cB hM M, k3_3 cI cB hM M] ++ [k5_0 cI cB hP1 P1, k5_5 cI cB hP1 P1, k5_6 cI cB hP1 P1]) r0 ([k3_0 cI cB hM M, k3_3 cI cB hM M] ++ [k5_0 cI cB hP1 P1, k5_5 cI cB hP1 P1, k5_6 cI cB hP1 P1]) := by
  refine zofI (cc := cX3_gapsWithPlaced) (maxL := 7) (ret := (some .int)) (by decide +kernel) rfl (Nat.le_of_ble_eq_true rfl) ?_
  intro p e s m below meth c A ls hx hb hml hr hown hts hlocks hK hP hD hS hA hl
  have hl : lv_has ls 7 [(0, .ref (hM 0)), (1, .ref (hP1 0)), (2, .int a2)] := hl
  have hown : s.vm.findClass RX3 = some m.cls := hown
  have hG : ∀ w ∈ wG, w ∈ ww_X3_gapsWithPlaced := fun w h => List.mem_cons_of_mem _ h
  have hi3 : ∀ w ∈ wsX30, w ∈ ww_X3_gapsWithPlaced := fun w h => List.mem_cons_of_mem _ (z_inX3 w h)
  have hi5 : ∀ w ∈ wsX50, w ∈ ww_X3_gapsWithPlaced := fun w h => List.mem_cons_of_mem _ (z_inX5 w h)
  have L5 : ∀ (M : zMm) (P1 : zMm) (l2 : Int32) (n : Nat) (l3 : Int32) (l4 : Int32) (o3 : Int32) (o4 : Int32), L_X3_gapsWithPlaced_5 M P1 l2 n l3 l4 = some (o3, o4) → zAt p l e ({ frames := 2, cells := 0, slots := 0, locals := 43 } : Room) s m [.ref (hM 0), .ref (hP1 0), .int a2].toArray below meth c (MQ below (zQi D cI cB r0 ([k3_0 cI cB hM M, k3_3 cI cB hM M] ++ [k5_0 cI cB hP1 P1, k5_5 cI cB hP1 P1, k5_6 cI cB hP1 P1]) A) [.ref (hM 0), .ref (hP1 0), .int a2].toArray s 0 0 A) A D 7 ([k3_0 cI cB hM M, k3_3 cI cB hM M] ++ [k5_0 cI cB hP1 P1, k5_5 cI cB hP1 P1, k5_6 cI cB hP1 P1]) [(0, .ref (hM 0)), (1, .ref (hP1 0)), (2, .int l2), (3, .int o3), (4, .int o4)] 81 [] → zAt p l e ({ frames := 2, cells := 0, slots := 0, locals := 43 } : Room) s m [.ref (hM 0), .ref (hP1 0), .int a2].toArray below meth c (MQ below (zQi D cI cB r0 ([k3_0 cI cB hM M, k3_3 cI cB hM M] ++ [k5_0 cI cB hP1 P1, k5_5 cI cB hP1 P1, k5_6 cI cB hP1 P1]) A) [.ref (hM 0), .ref (hP1 0), .int a2].toArray s 0 0 A) A D 7 ([k3_0 cI cB hM M, k3_3 cI cB hM M] ++ [k5_0 cI cB hP1 P1, k5_5 cI cB hP1 P1, k5_6 cI cB hP1 P1]) [(0, .ref (hM 0)), (1, .ref (hP1 0)), (2, .int l2), (3, .int l3), (4, .int l4)] 5 [] := by
    intro M P1 l2 n
    induction n with
    | zero => intro l3 l4 o3 o4 hf; simp [L_X3_gapsWithPlaced_5] at hf
    | succ n ih =>
      intro l3 l4 o3 o4 hf hk H locs ls hP hD hS hl
      rw [L_X3_gapsWithPlaced_5] at hf
      refine lv_iload hx hb dX3_gapsWithPlaced_5 (lv_at hl 4 rfl) ?_
      refine lv_aload_n hx hb dX3_gapsWithPlaced_7 rfl (lv_at hl 1 rfl) ?_
      refine va_get (D := D) (ci := 5) (v := .int (P1 8 0)) (C := RX5) (T := TX5) (N := 12) hx hb hts hi5 hown hK hP 2 rfl rfl 8 (Nat.le_of_ble_eq_true rfl) (hts _ (List.mem_cons_of_mem _ wd_198)) (fun _ h9 => h9) rfl dX3_gapsWithPlaced_8 ?_
      refine lv_icmp_ge (tgt := 81) hx hb dX3_gapsWithPlaced_11 (by decide) (fun c_1 => ?_) (fun c_1 => ?_)
      · replace hf := zit c_1 hf
        cases hf
        exact hk _ _ _ hP hD hS (lv_sub hl [0, 1, 2, 3, 4] rfl)
      · replace hf := zif c_1 hf
        refine lv_aload_n hx hb dX3_gapsWithPlaced_14 rfl (lv_at hl 1 rfl) ?_
        refine va_get (D := D) (ci := 5) (v := .ref (hP1 5)) (C := RX5) (T := TX5) (N := 12) hx hb hts hi5 hown hK hP 2 rfl rfl 4 (Nat.le_of_ble_eq_true rfl) (hts _ (List.mem_cons_of_mem _ wd_186)) (fun _ h9 => h9) rfl dX3_gapsWithPlaced_15 ?_
        refine lv_iload hx hb dX3_gapsWithPlaced_18 (lv_at hl 4 rfl) ?_
        obtain ⟨i_v2, v2, e_v2, hf⟩ := zl_some hf
        refine va_iald (n := 10) (f := P1 4) (cA := cI) hx hb hK hP 3 0 rfl rfl i_v2 dX3_gapsWithPlaced_20 ?_
        refine zt e_v2 ?_
        refine lv_istore (lv' := [(5, .int v2), (0, .ref (hM 0)), (1, .ref (hP1 0)), (2, .int l2), (3, .int l3), (4, .int l4)]) hx hb dX3_gapsWithPlaced_21 hl (by decide) rfl (fun ls hl => ?_)
        refine lv_aload_n hx hb dX3_gapsWithPlaced_23 rfl (lv_at hl 2 rfl) ?_
        refine va_get (D := D) (ci := 5) (v := .ref (hP1 6)) (C := RX5) (T := TX5) (N := 12) hx hb hts hi5 hown hK hP 2 rfl rfl 5 (Nat.le_of_ble_eq_true rfl) (hts _ (List.mem_cons_of_mem _ wd_189)) (fun _ h9 => h9) rfl dX3_gapsWithPlaced_24 ?_
        refine lv_iload hx hb dX3_gapsWithPlaced_27 (lv_at hl 5 rfl) ?_
        obtain ⟨i_v3, v3, e_v3, hf⟩ := zl_some hf
        refine va_iald (n := 10) (f := P1 5) (cA := cI) hx hb hK hP 4 0 rfl rfl i_v3 dX3_gapsWithPlaced_29 ?_
        refine zt e_v3 ?_
        refine lv_istore (lv' := [(6, .int v3), (5, .int v2), (0, .ref (hM 0)), (1, .ref (hP1 0)), (2, .int l2), (3, .int l3), (4, .int l4)]) hx hb dX3_gapsWithPlaced_30 hl (by decide) rfl (fun ls hl => ?_)
        refine lv_iload hx hb dX3_gapsWithPlaced_32 (lv_at hl 1 rfl) ?_
        refine lv_iload_n hx hb dX3_gapsWithPlaced_34 rfl (lv_at hl 4 rfl) ?_
        obtain ⟨x5, hq6, hf⟩ := zb1_some hf
        have J7 : zAt p l e ({ frames := 2, cells := 0, slots := 0, locals := 43 } : Room) s m [.ref (hM 0), .ref (hP1 0), .int a2].toArray below meth c (MQ below (zQi D cI cB r0 ([k3_0 cI cB hM M, k3_3 cI cB hM M] ++ [k5_0 cI cB hP1 P1, k5_5 cI cB hP1 P1, k5_6 cI cB hP1 P1]) A) [.ref (hM 0), .ref (hP1 0), .int a2].toArray s 0 0 A) A D 7 ([k3_0 cI cB hM M, k3_3 cI cB hM M] ++ [k5_0 cI cB hP1 P1, k5_5 cI cB hP1 P1, k5_6 cI cB hP1 P1]) [(0, .ref (hM 0)), (1, .ref (hP1 0)), (2, .int l2), (3, .int x5), (4, .int l4), (5, .int v2), (6, .int v3)] 75 [] := by
          intro H locs ls hP hD hS hl
          obtain ⟨x28, e_x28, hf⟩ := zv_some hf
          refine lv_iinc (v := x28) (lv' := [(4, .int x28), (0, .ref (hM 0)), (1, .ref (hP1 0)), (2, .int l2), (3, .int x5), (5, .int v2), (6, .int v3)]) hx hb dX3_gapsWithPlaced_75 hl (k := 4) rfl (by rw [e_x28]; rfl) (by decide) rfl (fun ls hl => ?_)
          refine lv_goto (tgt := 5) hx hb dX3_gapsWithPlaced_78 (by decide) ?_
          exact ih _ _ _ _ hf hk _ _ _ hP hD hS (lv_sub hl [1, 2, 3, 4, 0] rfl)
        replace hf := hq6
        refine lv_icmp_ne (tgt := 47) hx hb dX3_gapsWithPlaced_35 (by decide) (fun c_4 => ?_) (fun c_4 => ?_)
        · replace hf := zif c_4 hf
          refine lv_iload hx hb dX3_gapsWithPlaced_47 (lv_at hl 0 rfl) ?_
          refine lv_iload_n hx hb dX3_gapsWithPlaced_49 rfl (lv_at hl 4 rfl) ?_
          refine lv_icmp_ne (tgt := 75) hx hb dX3_gapsWithPlaced_50 (by decide) (fun c_8 => ?_) (fun c_8 => ?_)
          · replace hf := zif c_8 hf
            cases hf
            exact J7 _ _ _ hP hD hS (lv_sub hl [2, 3, 4, 5, 6, 1, 0] rfl)
          · replace hf := zit c_8 hf
            refine lv_aload_n hx hb dX3_gapsWithPlaced_53 rfl (lv_at hl 2 rfl) ?_
            refine lv_iload hx hb dX3_gapsWithPlaced_54 (lv_at hl 1 rfl) ?_
            obtain ⟨r9, hq10, hf⟩ := zb1_some hf
            refine zcallVi (ws2 := ([k3_0 cI cB hM M, k3_3 cI cB hM M] ++ [k5_0 cI cB hP1 P1, k5_5 cI cB hP1 P1, k5_6 cI cB hP1 P1])) (rest := []) ⟨hx, hb, hml, hown, hts⟩ (c_X3_isPlaced l D cI cB hM M v2 r9 hq10) (cwV 1 hts (z_gV hG wd_512 wd_514 wd_s13 wd_8 wd_515) rfl rfl rfl q_X3_isPlaced ⟨Nat.le_of_ble_eq_true rfl, Nat.le_of_ble_eq_true rfl⟩) hK hP hD hS hA 3 rfl rfl rfl [0] [1, 2, 3, 4] rfl rfl rfl rfl rfl rfl rfl hl.1 (Nat.le_of_ble_eq_true rfl) dX3_gapsWithPlaced_56 ⟨Nat.zero_le _, Nat.zero_le _⟩ rfl (fun H locs hP hD hS => ?_)
            refine lv_if_eq (tgt := 75) hx hb dX3_gapsWithPlaced_59 (by decide) (fun c_11 => ?_) (fun c_11 => ?_)
            · replace hf := zit c_11 hf
              cases hf
              exact J7 _ _ _ hP hD hS (lv_sub hl [2, 3, 4, 5, 6, 1, 0] rfl)
            · replace hf := zif c_11 hf
              refine lv_iload_n hx hb dX3_gapsWithPlaced_62 rfl (lv_at hl 5 rfl) ?_
              refine lv_aload_n hx hb dX3_gapsWithPlaced_63 rfl (lv_at hl 3 rfl) ?_
              refine lv_iload hx hb dX3_gapsWithPlaced_64 (lv_at hl 6 rfl) ?_
              refine lv_aload_n hx hb dX3_gapsWithPlaced_66 rfl (lv_at hl 2 rfl) ?_
              refine va_get (D := D) (ci := 3) (v := .ref (hM 3)) (C := RX3) (T := TX3) (N := 6) hx hb hts hi3 hown hK hP 0 rfl rfl 4 (Nat.le_of_ble_eq_true rfl) (hts _ (List.mem_cons_of_mem _ wd_140)) (fun _ h9 => h9) rfl dX3_gapsWithPlaced_67 ?_
              obtain ⟨r12, hq13, hf⟩ := zb1_some hf
              refine zcallVi (ws2 := ([k3_0 cI cB hM M, k3_3 cI cB hM M] ++ [k5_0 cI cB hP1 P1, k5_5 cI cB hP1 P1, k5_6 cI cB hP1 P1])) (rest := [.int l3]) ⟨hx, hb, hml, hown, hts⟩ (c_X5_gapOf l D cI cB hP1 (fun j => hM (3 + j)) P1 (fun j => M (4 + j)) l4 r12 hq13) (cwV 2 hts (z_gV hG wd_526 wd_459 wd_460 wd_10 wd_461) rfl rfl rfl q_X5_gapOf ⟨Nat.le_of_ble_eq_true rfl, Nat.le_of_ble_eq_true rfl⟩) hK hP hD hS hA 5 rfl rfl rfl [2, 3, 4, 1] [0] rfl rfl rfl rfl rfl rfl rfl hl.1 (Nat.le_of_ble_eq_true rfl) dX3_gapsWithPlaced_70 ⟨Nat.zero_le _, Nat.zero_le _⟩ rfl (fun H locs hP hD hS => ?_)
              refine lv_iadd hx hb dX3_gapsWithPlaced_73 ?_
              obtain ⟨x14, e_x14, hf⟩ := zv_some hf
              refine zt e_x14 ?_
              refine lv_istore_n (lv' := [(3, .int x14), (6, .int v3), (5, .int v2), (0, .ref (hM 0)), (1, .ref (hP1 0)), (2, .int l2), (4, .int l4)]) hx hb dX3_gapsWithPlaced_74 rfl hl (by decide) rfl (fun ls hl => ?_)
              cases hf
              exact J7 _ _ _ hP hD hS (lv_sub hl [3, 4, 5, 0, 6, 2, 1] rfl)
        · replace hf := zit c_4 hf
          refine lv_aload_n hx hb dX3_gapsWithPlaced_38 rfl (lv_at hl 2 rfl) ?_
          refine lv_iload hx hb dX3_gapsWithPlaced_39 (lv_at hl 0 rfl) ?_
          obtain ⟨r15, hq16, hf⟩ := zb1_some hf
          refine zcallVi (ws2 := ([k3_0 cI cB hM M, k3_3 cI cB hM M] ++ [k5_0 cI cB hP1 P1, k5_5 cI cB hP1 P1, k5_6 cI cB hP1 P1])) (rest := []) ⟨hx, hb, hml, hown, hts⟩ (c_X3_isPlaced l D cI cB hM M v3 r15 hq16) (cwV 1 hts (z_gV hG wd_512 wd_514 wd_s13 wd_8 wd_515) rfl rfl rfl q_X3_isPlaced ⟨Nat.le_of_ble_eq_true rfl, Nat.le_of_ble_eq_true rfl⟩) hK hP hD hS hA 3 rfl rfl rfl [0] [1, 2, 3, 4] rfl rfl rfl rfl rfl rfl rfl hl.1 (Nat.le_of_ble_eq_true rfl) dX3_gapsWithPlaced_41 ⟨Nat.zero_le _, Nat.zero_le _⟩ rfl (fun H locs hP hD hS => ?_)
          refine lv_if_ne (tgt := 62) hx hb dX3_gapsWithPlaced_44 (by decide) (fun c_17 => ?_) (fun c_17 => ?_)
          · replace hf := zif c_17 hf
            refine lv_iload_n hx hb dX3_gapsWithPlaced_62 rfl (lv_at hl 5 rfl) ?_
            refine lv_aload_n hx hb dX3_gapsWithPlaced_63 rfl (lv_at hl 3 rfl) ?_
            refine lv_iload hx hb dX3_gapsWithPlaced_64 (lv_at hl 6 rfl) ?_
            refine lv_aload_n hx hb dX3_gapsWithPlaced_66 rfl (lv_at hl 2 rfl) ?_
            refine va_get (D := D) (ci := 3) (v := .ref (hM 3)) (C := RX3) (T := TX3) (N := 6) hx hb hts hi3 hown hK hP 0 rfl rfl 4 (Nat.le_of_ble_eq_true rfl) (hts _ (List.mem_cons_of_mem _ wd_140)) (fun _ h9 => h9) rfl dX3_gapsWithPlaced_67 ?_
            obtain ⟨r18, hq19, hf⟩ := zb1_some hf
            refine zcallVi (ws2 := ([k3_0 cI cB hM M, k3_3 cI cB hM M] ++ [k5_0 cI cB hP1 P1, k5_5 cI cB hP1 P1, k5_6 cI cB hP1 P1])) (rest := [.int l3]) ⟨hx, hb, hml, hown, hts⟩ (c_X5_gapOf l D cI cB hP1 (fun j => hM (3 + j)) P1 (fun j => M (4 + j)) l4 r18 hq19) (cwV 2 hts (z_gV hG wd_526 wd_459 wd_460 wd_10 wd_461) rfl rfl rfl q_X5_gapOf ⟨Nat.le_of_ble_eq_true rfl, Nat.le_of_ble_eq_true rfl⟩) hK hP hD hS hA 5 rfl rfl rfl [2, 3, 4, 1] [0] rfl rfl rfl rfl rfl rfl rfl hl.1 (Nat.le_of_ble_eq_true rfl) dX3_gapsWithPlaced_70 ⟨Nat.zero_le _, Nat.zero_le _⟩ rfl (fun H locs hP hD hS => ?_)
            refine lv_iadd hx hb dX3_gapsWithPlaced_73 ?_
            obtain ⟨x20, e_x20, hf⟩ := zv_some hf
            refine zt e_x20 ?_
            refine lv_istore_n (lv' := [(3, .int x20), (6, .int v3), (5, .int v2), (0, .ref (hM 0)), (1, .ref (hP1 0)), (2, .int l2), (4, .int l4)]) hx hb dX3_gapsWithPlaced_74 rfl hl (by decide) rfl (fun ls hl => ?_)
            cases hf
            exact J7 _ _ _ hP hD hS (lv_sub hl [3, 4, 5, 0, 6, 2, 1] rfl)
          · replace hf := zit c_17 hf
            refine lv_iload hx hb dX3_gapsWithPlaced_47 (lv_at hl 0 rfl) ?_
            refine lv_iload_n hx hb dX3_gapsWithPlaced_49 rfl (lv_at hl 4 rfl) ?_
            refine lv_icmp_ne (tgt := 75) hx hb dX3_gapsWithPlaced_50 (by decide) (fun c_21 => ?_) (fun c_21 => ?_)
            · replace hf := zif c_21 hf
              cases hf
              exact J7 _ _ _ hP hD hS (lv_sub hl [2, 3, 4, 5, 6, 1, 0] rfl)
            · replace hf := zit c_21 hf
              refine lv_aload_n hx hb dX3_gapsWithPlaced_53 rfl (lv_at hl 2 rfl) ?_
              refine lv_iload hx hb dX3_gapsWithPlaced_54 (lv_at hl 1 rfl) ?_
              obtain ⟨r22, hq23, hf⟩ := zb1_some hf
              refine zcallVi (ws2 := ([k3_0 cI cB hM M, k3_3 cI cB hM M] ++ [k5_0 cI cB hP1 P1, k5_5 cI cB hP1 P1, k5_6 cI cB hP1 P1])) (rest := []) ⟨hx, hb, hml, hown, hts⟩ (c_X3_isPlaced l D cI cB hM M v2 r22 hq23) (cwV 1 hts (z_gV hG wd_512 wd_514 wd_s13 wd_8 wd_515) rfl rfl rfl q_X3_isPlaced ⟨Nat.le_of_ble_eq_true rfl, Nat.le_of_ble_eq_true rfl⟩) hK hP hD hS hA 3 rfl rfl rfl [0] [1, 2, 3, 4] rfl rfl rfl rfl rfl rfl rfl hl.1 (Nat.le_of_ble_eq_true rfl) dX3_gapsWithPlaced_56 ⟨Nat.zero_le _, Nat.zero_le _⟩ rfl (fun H locs hP hD hS => ?_)
              refine lv_if_eq (tgt := 75) hx hb dX3_gapsWithPlaced_59 (by decide) (fun c_24 => ?_) (fun c_24 => ?_)
              · replace hf := zit c_24 hf
                cases hf
                exact J7 _ _ _ hP hD hS (lv_sub hl [2, 3, 4, 5, 6, 1, 0] rfl)
              · replace hf := zif c_24 hf
                refine lv_iload_n hx hb dX3_gapsWithPlaced_62 rfl (lv_at hl 5 rfl) ?_
                refine lv_aload_n hx hb dX3_gapsWithPlaced_63 rfl (lv_at hl 3 rfl) ?_
                refine lv_iload hx hb dX3_gapsWithPlaced_64 (lv_at hl 6 rfl) ?_
                refine lv_aload_n hx hb dX3_gapsWithPlaced_66 rfl (lv_at hl 2 rfl) ?_
                refine va_get (D := D) (ci := 3) (v := .ref (hM 3)) (C := RX3) (T := TX3) (N := 6) hx hb hts hi3 hown hK hP 0 rfl rfl 4 (Nat.le_of_ble_eq_true rfl) (hts _ (List.mem_cons_of_mem _ wd_140)) (fun _ h9 => h9) rfl dX3_gapsWithPlaced_67 ?_
                obtain ⟨r25, hq26, hf⟩ := zb1_some hf
                refine zcallVi (ws2 := ([k3_0 cI cB hM M, k3_3 cI cB hM M] ++ [k5_0 cI cB hP1 P1, k5_5 cI cB hP1 P1, k5_6 cI cB hP1 P1])) (rest := [.int l3]) ⟨hx, hb, hml, hown, hts⟩ (c_X5_gapOf l D cI cB hP1 (fun j => hM (3 + j)) P1 (fun j => M (4 + j)) l4 r25 hq26) (cwV 2 hts (z_gV hG wd_526 wd_459 wd_460 wd_10 wd_461) rfl rfl rfl q_X5_gapOf ⟨Nat.le_of_ble_eq_true rfl, Nat.le_of_ble_eq_true rfl⟩) hK hP hD hS hA 5 rfl rfl rfl [2, 3, 4, 1] [0] rfl rfl rfl rfl rfl rfl rfl hl.1 (Nat.le_of_ble_eq_true rfl) dX3_gapsWithPlaced_70 ⟨Nat.zero_le _, Nat.zero_le _⟩ rfl (fun H locs hP hD hS => ?_)
                refine lv_iadd hx hb dX3_gapsWithPlaced_73 ?_
                obtain ⟨x27, e_x27, hf⟩ := zv_some hf
                refine zt e_x27 ?_
                refine lv_istore_n (lv' := [(3, .int x27), (6, .int v3), (5, .int v2), (0, .ref (hM 0)), (1, .ref (hP1 0)), (2, .int l2), (4, .int l4)]) hx hb dX3_gapsWithPlaced_74 rfl hl (by decide) rfl (fun ls hl => ?_)
                cases hf
                exact J7 _ _ _ hP hD hS (lv_sub hl [3, 4, 5, 0, 6, 2, 1] rfl)
  unfold f_X3_gapsWithPlaced at hf
  refine lv_iconst (v := 0) hx hb dX3_gapsWithPlaced_0 (by decide) ?_
  refine lv_istore_n (lv' := [(3, .int 0), (0, .ref (hM 0)), (1, .ref (hP1 0)), (2, .int a2)]) hx hb dX3_gapsWithPlaced_1 rfl hl (by decide) rfl (fun ls hl => ?_)
  refine lv_iconst (v := 0) hx hb dX3_gapsWithPlaced_2 (by decide) ?_
  refine lv_istore (lv' := [(4, .int 0), (3, .int 0), (0, .ref (hM 0)), (1, .ref (hP1 0)), (2, .int a2)]) hx hb dX3_gapsWithPlaced_3 hl (by decide) rfl (fun ls hl => ?_)
  obtain ⟨x29, x30, hq31, hf⟩ := zb2_some hf
  refine L5 _ _ _ _ _ _ _ _ hq31 ?_ _ _ _ hP hD hS (lv_sub hl [2, 3, 4, 1, 0] rfl)
  intro H locs ls hP hD hS hl
  refine lv_iload_n hx hb dX3_gapsWithPlaced_81 rfl (lv_at hl 3 rfl) ?_
  cases hf
  exact zretI hx hb hr hlocks hK hP hD hS dX3_gapsWithPlaced_82
