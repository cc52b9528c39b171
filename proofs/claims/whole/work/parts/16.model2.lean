def L_X9_nextOrder_11 (M : zMm) (l1 : Int32) : Nat → Int32 → Option (Int32)
  | 0, _ => none
  | n + 1, l2 => if l2 < 0 then some l2 else zl 7 (M 17) l2 (fun v4 => zl 7 (M 17) (l2 + 1) (fun v5 => if v4 ≤ v5 then some l2 else zv (l2 + (-1)) (fun (x7 : Int32) => L_X9_nextOrder_11 M l1 n x7)))
def L_X9_nextOrder_48 (M : zMm) (l1 : Int32) (l2 : Int32) : Nat → Int32 → Option (Int32)
  | 0, _ => none
  | n + 1, l3 => zl 7 (M 17) l3 (fun v12 => zl 7 (M 17) l2 (fun v13 => if v13 ≤ v12 then some l3 else zv (l3 + (-1)) (fun (x15 : Int32) => L_X9_nextOrder_48 M l1 l2 n x15)))
def L_X9_nextOrder_107 (l1 : Int32) (l2 : Int32) (l3 : Int32) : Nat → Int32 → Int32 → Int32 → zMm → Option (Int32 × Int32 × Int32 × zMm)
  | 0, _, _, _, _ => none
  | n + 1, l4, l5, l6, M => if l6 ≤ l5 then some (l4, l5, l6, M) else zl 7 (M 17) l5 (fun v25 => zl 7 (M 17) l6 (fun v26 => zw 7 M 17 l5 v26 (fun M_27 => zw 7 M_27 17 l6 v25 (fun M_28 => zv (l5 + 1) (fun (x29 : Int32) => zv (l6 + (-1)) (fun (x30 : Int32) => L_X9_nextOrder_107 l1 l2 l3 n v25 x29 x30 M_28))))))
def f_X9_nextOrder (M : zMm) : Option (Int32 × zMm) := zv (M 6 0) (fun (x1 : Int32) => zv (x1 - 2) (fun (x2 : Int32) => zb1 (L_X9_nextOrder_11 M x1 100000 x2) (fun (x8 : Int32) => if (0 : Int32) ≤ x8 then zv (x1 - 1) (fun (x11 : Int32) => zb1 (L_X9_nextOrder_48 M x1 x8 100000 x11) (fun (x16 : Int32) => zl 7 (M 17) x8 (fun v18 => zl 7 (M 17) x16 (fun v19 => zw 7 M 17 x8 v19 (fun M_20 => zw 7 M_20 17 x16 v18 (fun M_21 => zv (x8 + 1) (fun (x22 : Int32) => zv (x1 - 1) (fun (x23 : Int32) => zb4 (L_X9_nextOrder_107 x1 x8 x16 100000 v18 x22 x23 M_21) (fun (x31 : Int32) (x32 : Int32) (x33 : Int32) (M_34 : zMm) => some ((1 : Int32), M_34)))))))))) else some ((0 : Int32), M))))
abbrev ww_X9_nextOrder : List Cond := Cond.code yX9_nextOrder cX9_nextOrder 7 (some .boolean) :: wG
theorem q_X9_nextOrder : yX9_nextOrder.cls = RX9 ∧ yX9_nextOrder.cls ≠ "java/lang/invoke/MethodHandle" ∧ yX9_nextOrder.cls ≠ "java/lang/invoke/VarHandle" ∧ (parseMethodDescriptor yX9_nextOrder.desc).map (fun d => d.parameters.length) = some 0 := by decide +kernel
set_option maxHeartbeats 4000000 in
set_option maxRecDepth 100000 in
theorem c_X9_nextOrder (l : Launch) (D : va_G) (cI cB : ClassId) (hM : Nat → Nat) (M : zMm) (r0 : Int32) (M0 : zMm) (hf : f_X9_nextOrder M = some (r0, M0)) : zMi l yX9_nextOrder ww_X9_nextOrder ({ frames := 0, cells := 0, slots := 0, locals := 0 } : Room) D cI cB [.ref (hM 0)] (w9 cI cB hM M) r0 (w9 cI cB hM M0) := by
  refine zofI (cc := cX9_nextOrder) (maxL := 7) (ret := (some .boolean)) (by decide +kernel) rfl (Nat.le_of_ble_eq_true rfl) ?_
  intro p e s m below meth c A ls hx hb hml hr hown hts hlocks hK hP hD hS hA hl
  have hl : lv_has ls 7 [(0, .ref (hM 0))] := hl
  have hown : s.vm.findClass RX9 = some m.cls := hown
  have hG : ∀ w ∈ wG, w ∈ ww_X9_nextOrder := fun w h => List.mem_cons_of_mem _ h
  have hi9 : ∀ w ∈ wsX90, w ∈ ww_X9_nextOrder := fun w h => List.mem_cons_of_mem _ (z_inX9 w h)
  have L107 : ∀ (l1 : Int32) (l2 : Int32) (l3 : Int32) (n : Nat) (l4 : Int32) (l5 : Int32) (l6 : Int32) (M : zMm) (o4 : Int32) (o5 : Int32) (o6 : Int32) (oM : zMm), L_X9_nextOrder_107 l1 l2 l3 n l4 l5 l6 M = some (o4, o5, o6, oM) → zAt p l e ({ frames := 0, cells := 0, slots := 0, locals := 0 } : Room) s m [.ref (hM 0)].toArray below meth c (MQ below (zQi D cI cB r0 (w9 cI cB hM M0) A) [.ref (hM 0)].toArray s 0 0 A) A D 7 (w9 cI cB hM oM) [(0, .ref (hM 0)), (1, .int l1), (2, .int l2), (3, .int l3), (4, .int o4), (5, .int o5), (6, .int o6)] 155 [] → zAt p l e ({ frames := 0, cells := 0, slots := 0, locals := 0 } : Room) s m [.ref (hM 0)].toArray below meth c (MQ below (zQi D cI cB r0 (w9 cI cB hM M0) A) [.ref (hM 0)].toArray s 0 0 A) A D 7 (w9 cI cB hM M) [(0, .ref (hM 0)), (1, .int l1), (2, .int l2), (3, .int l3), (4, .int l4), (5, .int l5), (6, .int l6)] 107 [] := by
    intro l1 l2 l3 n
    induction n with
    | zero => intro l4 l5 l6 M o4 o5 o6 oM hf; simp [L_X9_nextOrder_107] at hf
    | succ n ih =>
      intro l4 l5 l6 M o4 o5 o6 oM hf hk H locs ls hP hD hS hl
      rw [L_X9_nextOrder_107] at hf
      refine lv_iload hx hb dX9_nextOrder_107 (lv_at hl 5 rfl) ?_
      refine lv_iload hx hb dX9_nextOrder_109 (lv_at hl 6 rfl) ?_
      refine lv_icmp_ge (tgt := 155) hx hb dX9_nextOrder_111 (by decide) (fun c_24 => ?_) (fun c_24 => ?_)
      · replace hf := zit c_24 hf
        cases hf
        exact hk _ _ _ hP hD hS (lv_sub hl [0, 1, 2, 3, 4, 5, 6] rfl)
      · replace hf := zif c_24 hf
        refine lv_aload_n hx hb dX9_nextOrder_114 rfl (lv_at hl 0 rfl) ?_
        refine va_get (D := D) (ci := 9) (v := .ref (hM 12)) (C := RX9) (T := TX9) (N := 23) hx hb hts hi9 hown hK hP 0 rfl rfl 17 (Nat.le_of_ble_eq_true rfl) (hts _ (List.mem_cons_of_mem _ wd_669)) (fun _ h9 => h9) rfl dX9_nextOrder_115 ?_
        refine lv_iload hx hb dX9_nextOrder_118 (lv_at hl 5 rfl) ?_
        obtain ⟨i_v25, v25, e_v25, hf⟩ := zl_some hf
        refine va_iald (n := 7) (f := M 17) (cA := cI) hx hb hK hP 12 0 rfl rfl i_v25 dX9_nextOrder_120 ?_
        refine zt e_v25 ?_
        refine lv_istore (lv' := [(4, .int v25), (0, .ref (hM 0)), (1, .int l1), (2, .int l2), (3, .int l3), (5, .int l5), (6, .int l6)]) hx hb dX9_nextOrder_121 hl (by decide) rfl (fun ls hl => ?_)
        refine lv_aload_n hx hb dX9_nextOrder_123 rfl (lv_at hl 1 rfl) ?_
        refine va_get (D := D) (ci := 9) (v := .ref (hM 12)) (C := RX9) (T := TX9) (N := 23) hx hb hts hi9 hown hK hP 0 rfl rfl 17 (Nat.le_of_ble_eq_true rfl) (hts _ (List.mem_cons_of_mem _ wd_669)) (fun _ h9 => h9) rfl dX9_nextOrder_124 ?_
        refine lv_iload hx hb dX9_nextOrder_127 (lv_at hl 5 rfl) ?_
        refine lv_aload_n hx hb dX9_nextOrder_129 rfl (lv_at hl 1 rfl) ?_
        refine va_get (D := D) (ci := 9) (v := .ref (hM 12)) (C := RX9) (T := TX9) (N := 23) hx hb hts hi9 hown hK hP 0 rfl rfl 17 (Nat.le_of_ble_eq_true rfl) (hts _ (List.mem_cons_of_mem _ wd_669)) (fun _ h9 => h9) rfl dX9_nextOrder_130 ?_
        refine lv_iload hx hb dX9_nextOrder_133 (lv_at hl 6 rfl) ?_
        obtain ⟨i_v26, v26, e_v26, hf⟩ := zl_some hf
        refine va_iald (n := 7) (f := M 17) (cA := cI) hx hb hK hP 12 0 rfl rfl i_v26 dX9_nextOrder_135 ?_
        refine zt e_v26 ?_
        obtain ⟨i_M_27, M_27, e_M_27, hf⟩ := zw_some hf
        refine va_iast (n := 7) (f := M 17) (cA := cI) hx hb hK hP hD hS 12 0 rfl rfl i_M_27 dX9_nextOrder_136 (fun H locs hP hD hS => ?_)
        have hP : va_P D vwCl (w9 cI cB hM (zs M 17 (upd (M 17) l5.toNatClampNeg v26))) H := hP
        have hD : va_D A (w9 cI cB hM (zs M 17 (upd (M 17) l5.toNatClampNeg v26))) := hD
        rw [← e_M_27] at hP hD
        refine lv_aload_n hx hb dX9_nextOrder_137 rfl (lv_at hl 1 rfl) ?_
        refine va_get (D := D) (ci := 9) (v := .ref (hM 12)) (C := RX9) (T := TX9) (N := 23) hx hb hts hi9 hown hK hP 0 rfl rfl 17 (Nat.le_of_ble_eq_true rfl) (hts _ (List.mem_cons_of_mem _ wd_669)) (fun _ h9 => h9) rfl dX9_nextOrder_138 ?_
        refine lv_iload hx hb dX9_nextOrder_141 (lv_at hl 6 rfl) ?_
        refine lv_iload hx hb dX9_nextOrder_143 (lv_at hl 0 rfl) ?_
        obtain ⟨i_M_28, M_28, e_M_28, hf⟩ := zw_some hf
        refine va_iast (n := 7) (f := M_27 17) (cA := cI) hx hb hK hP hD hS 12 0 rfl rfl i_M_28 dX9_nextOrder_145 (fun H locs hP hD hS => ?_)
        have hP : va_P D vwCl (w9 cI cB hM (zs M_27 17 (upd (M_27 17) l6.toNatClampNeg v25))) H := hP
        have hD : va_D A (w9 cI cB hM (zs M_27 17 (upd (M_27 17) l6.toNatClampNeg v25))) := hD
        rw [← e_M_28] at hP hD
        obtain ⟨x29, e_x29, hf⟩ := zv_some hf
        refine lv_iinc (v := x29) (lv' := [(5, .int x29), (4, .int v25), (0, .ref (hM 0)), (1, .int l1), (2, .int l2), (3, .int l3), (6, .int l6)]) hx hb dX9_nextOrder_146 hl (k := 5) rfl (by rw [e_x29]; rfl) (by decide) rfl (fun ls hl => ?_)
        obtain ⟨x30, e_x30, hf⟩ := zv_some hf
        refine lv_iinc (v := x30) (lv' := [(6, .int x30), (5, .int x29), (4, .int v25), (0, .ref (hM 0)), (1, .int l1), (2, .int l2), (3, .int l3)]) hx hb dX9_nextOrder_149 hl (k := 6) rfl (by rw [e_x30]; rfl) (by decide) rfl (fun ls hl => ?_)
        refine lv_goto (tgt := 107) hx hb dX9_nextOrder_152 (by decide) ?_
        exact ih _ _ _ _ _ _ _ _ hf hk _ _ _ hP hD hS (lv_sub hl [3, 4, 5, 6, 2, 1, 0] rfl)
  have L48 : ∀ (M : zMm) (l1 : Int32) (l2 : Int32) (n : Nat) (l3 : Int32) (o3 : Int32), L_X9_nextOrder_48 M l1 l2 n l3 = some o3 → zAt p l e ({ frames := 0, cells := 0, slots := 0, locals := 0 } : Room) s m [.ref (hM 0)].toArray below meth c (MQ below (zQi D cI cB r0 (w9 cI cB hM M0) A) [.ref (hM 0)].toArray s 0 0 A) A D 7 (w9 cI cB hM M) [(0, .ref (hM 0)), (1, .int l1), (2, .int l2), (3, .int o3)] 69 [] → zAt p l e ({ frames := 0, cells := 0, slots := 0, locals := 0 } : Room) s m [.ref (hM 0)].toArray below meth c (MQ below (zQi D cI cB r0 (w9 cI cB hM M0) A) [.ref (hM 0)].toArray s 0 0 A) A D 7 (w9 cI cB hM M) [(0, .ref (hM 0)), (1, .int l1), (2, .int l2), (3, .int l3)] 48 [] := by
    intro M l1 l2 n
    induction n with
    | zero => intro l3 o3 hf; simp [L_X9_nextOrder_48] at hf
    | succ n ih =>
      intro l3 o3 hf hk H locs ls hP hD hS hl
      rw [L_X9_nextOrder_48] at hf
      refine lv_aload_n hx hb dX9_nextOrder_48 rfl (lv_at hl 0 rfl) ?_
      refine va_get (D := D) (ci := 9) (v := .ref (hM 12)) (C := RX9) (T := TX9) (N := 23) hx hb hts hi9 hown hK hP 0 rfl rfl 17 (Nat.le_of_ble_eq_true rfl) (hts _ (List.mem_cons_of_mem _ wd_669)) (fun _ h9 => h9) rfl dX9_nextOrder_49 ?_
      refine lv_iload_n hx hb dX9_nextOrder_52 rfl (lv_at hl 3 rfl) ?_
      obtain ⟨i_v12, v12, e_v12, hf⟩ := zl_some hf
      refine va_iald (n := 7) (f := M 17) (cA := cI) hx hb hK hP 12 0 rfl rfl i_v12 dX9_nextOrder_53 ?_
      refine zt e_v12 ?_
      refine lv_aload_n hx hb dX9_nextOrder_54 rfl (lv_at hl 0 rfl) ?_
      refine va_get (D := D) (ci := 9) (v := .ref (hM 12)) (C := RX9) (T := TX9) (N := 23) hx hb hts hi9 hown hK hP 0 rfl rfl 17 (Nat.le_of_ble_eq_true rfl) (hts _ (List.mem_cons_of_mem _ wd_669)) (fun _ h9 => h9) rfl dX9_nextOrder_55 ?_
      refine lv_iload_n hx hb dX9_nextOrder_58 rfl (lv_at hl 2 rfl) ?_
      obtain ⟨i_v13, v13, e_v13, hf⟩ := zl_some hf
      refine va_iald (n := 7) (f := M 17) (cA := cI) hx hb hK hP 12 0 rfl rfl i_v13 dX9_nextOrder_59 ?_
      refine zt e_v13 ?_
      refine lv_icmp_ge (tgt := 69) hx hb dX9_nextOrder_60 (by decide) (fun c_14 => ?_) (fun c_14 => ?_)
      · replace hf := zit c_14 hf
        cases hf
        exact hk _ _ _ hP hD hS (lv_sub hl [0, 1, 2, 3] rfl)
      · replace hf := zif c_14 hf
        obtain ⟨x15, e_x15, hf⟩ := zv_some hf
        refine lv_iinc (v := x15) (lv' := [(3, .int x15), (0, .ref (hM 0)), (1, .int l1), (2, .int l2)]) hx hb dX9_nextOrder_63 hl (k := 3) rfl (by rw [e_x15]; rfl) (by decide) rfl (fun ls hl => ?_)
        refine lv_goto (tgt := 48) hx hb dX9_nextOrder_66 (by decide) ?_
        exact ih _ _ hf hk _ _ _ hP hD hS (lv_sub hl [1, 2, 3, 0] rfl)
  have L11 : ∀ (M : zMm) (l1 : Int32) (n : Nat) (l2 : Int32) (o2 : Int32), L_X9_nextOrder_11 M l1 n l2 = some o2 → zAt p l e ({ frames := 0, cells := 0, slots := 0, locals := 0 } : Room) s m [.ref (hM 0)].toArray below meth c (MQ below (zQi D cI cB r0 (w9 cI cB hM M0) A) [.ref (hM 0)].toArray s 0 0 A) A D 7 (w9 cI cB hM M) [(0, .ref (hM 0)), (1, .int l1), (2, .int o2)] 38 [] → zAt p l e ({ frames := 0, cells := 0, slots := 0, locals := 0 } : Room) s m [.ref (hM 0)].toArray below meth c (MQ below (zQi D cI cB r0 (w9 cI cB hM M0) A) [.ref (hM 0)].toArray s 0 0 A) A D 7 (w9 cI cB hM M) [(0, .ref (hM 0)), (1, .int l1), (2, .int l2)] 11 [] := by
    intro M l1 n
    induction n with
    | zero => intro l2 o2 hf; simp [L_X9_nextOrder_11] at hf
    | succ n ih =>
      intro l2 o2 hf hk H locs ls hP hD hS hl
      rw [L_X9_nextOrder_11] at hf
      refine lv_iload_n hx hb dX9_nextOrder_11 rfl (lv_at hl 2 rfl) ?_
      refine lv_if_lt (tgt := 38) hx hb dX9_nextOrder_12 (by decide) (fun c_3 => ?_) (fun c_3 => ?_)
      · replace hf := zit c_3 hf
        cases hf
        exact hk _ _ _ hP hD hS (lv_sub hl [0, 1, 2] rfl)
      · replace hf := zif c_3 hf
        refine lv_aload_n hx hb dX9_nextOrder_15 rfl (lv_at hl 0 rfl) ?_
        refine va_get (D := D) (ci := 9) (v := .ref (hM 12)) (C := RX9) (T := TX9) (N := 23) hx hb hts hi9 hown hK hP 0 rfl rfl 17 (Nat.le_of_ble_eq_true rfl) (hts _ (List.mem_cons_of_mem _ wd_669)) (fun _ h9 => h9) rfl dX9_nextOrder_16 ?_
        refine lv_iload_n hx hb dX9_nextOrder_19 rfl (lv_at hl 2 rfl) ?_
        obtain ⟨i_v4, v4, e_v4, hf⟩ := zl_some hf
        refine va_iald (n := 7) (f := M 17) (cA := cI) hx hb hK hP 12 0 rfl rfl i_v4 dX9_nextOrder_20 ?_
        refine zt e_v4 ?_
        refine lv_aload_n hx hb dX9_nextOrder_21 rfl (lv_at hl 0 rfl) ?_
        refine va_get (D := D) (ci := 9) (v := .ref (hM 12)) (C := RX9) (T := TX9) (N := 23) hx hb hts hi9 hown hK hP 0 rfl rfl 17 (Nat.le_of_ble_eq_true rfl) (hts _ (List.mem_cons_of_mem _ wd_669)) (fun _ h9 => h9) rfl dX9_nextOrder_22 ?_
        refine lv_iload_n hx hb dX9_nextOrder_25 rfl (lv_at hl 2 rfl) ?_
        refine lv_iconst (v := 1) hx hb dX9_nextOrder_26 (by decide) ?_
        refine lv_iadd hx hb dX9_nextOrder_27 ?_
        obtain ⟨i_v5, v5, e_v5, hf⟩ := zl_some hf
        refine va_iald (n := 7) (f := M 17) (cA := cI) hx hb hK hP 12 0 rfl rfl i_v5 dX9_nextOrder_28 ?_
        refine zt e_v5 ?_
        refine lv_icmp_le (tgt := 38) hx hb dX9_nextOrder_29 (by decide) (fun c_6 => ?_) (fun c_6 => ?_)
        · replace hf := zit c_6 hf
          cases hf
          exact hk _ _ _ hP hD hS (lv_sub hl [0, 1, 2] rfl)
        · replace hf := zif c_6 hf
          obtain ⟨x7, e_x7, hf⟩ := zv_some hf
          refine lv_iinc (v := x7) (lv' := [(2, .int x7), (0, .ref (hM 0)), (1, .int l1)]) hx hb dX9_nextOrder_32 hl (k := 2) rfl (by rw [e_x7]; rfl) (by decide) rfl (fun ls hl => ?_)
          refine lv_goto (tgt := 11) hx hb dX9_nextOrder_35 (by decide) ?_
          exact ih _ _ hf hk _ _ _ hP hD hS (lv_sub hl [1, 2, 0] rfl)
  unfold f_X9_nextOrder at hf
  refine lv_aload_n hx hb dX9_nextOrder_0 rfl (lv_at hl 0 rfl) ?_
  refine va_get (D := D) (ci := 9) (v := .ref (hM 5)) (C := RX9) (T := TX9) (N := 23) hx hb hts hi9 hown hK hP 0 rfl rfl 6 (Nat.le_of_ble_eq_true rfl) (hts _ (List.mem_cons_of_mem _ wd_658)) (fun _ h9 => h9) rfl dX9_nextOrder_1 ?_
  refine lv_iconst (v := 0) hx hb dX9_nextOrder_4 (by decide) ?_
  refine va_iald (n := 2) (f := M 6) (cA := cI) hx hb hK hP 5 0 rfl rfl (z_in (by decide)) dX9_nextOrder_5 ?_
  refine z_tc (k := 0) (by decide) ?_
  obtain ⟨x1, e_x1, hf⟩ := zv_some hf
  refine zt e_x1 ?_
  refine lv_istore_n (lv' := [(1, .int x1), (0, .ref (hM 0))]) hx hb dX9_nextOrder_6 rfl hl (by decide) rfl (fun ls hl => ?_)
  refine lv_iload_n hx hb dX9_nextOrder_7 rfl (lv_at hl 0 rfl) ?_
  refine lv_iconst (v := 2) hx hb dX9_nextOrder_8 (by decide) ?_
  refine lv_isub hx hb dX9_nextOrder_9 ?_
  obtain ⟨x2, e_x2, hf⟩ := zv_some hf
  refine zt e_x2 ?_
  refine lv_istore_n (lv' := [(2, .int x2), (1, .int x1), (0, .ref (hM 0))]) hx hb dX9_nextOrder_10 rfl hl (by decide) rfl (fun ls hl => ?_)
  obtain ⟨x8, hq9, hf⟩ := zb1_some hf
  refine L11 _ _ _ _ _ hq9 ?_ _ _ _ hP hD hS (lv_sub hl [2, 1, 0] rfl)
  intro H locs ls hP hD hS hl
  refine lv_iload_n hx hb dX9_nextOrder_38 rfl (lv_at hl 2 rfl) ?_
  refine lv_if_ge (tgt := 44) hx hb dX9_nextOrder_39 (by decide) (fun c_10 => ?_) (fun c_10 => ?_)
  · replace hf := zit c_10 hf
    refine lv_iload_n hx hb dX9_nextOrder_44 rfl (lv_at hl 1 rfl) ?_
    refine lv_iconst (v := 1) hx hb dX9_nextOrder_45 (by decide) ?_
    refine lv_isub hx hb dX9_nextOrder_46 ?_
    obtain ⟨x11, e_x11, hf⟩ := zv_some hf
    refine zt e_x11 ?_
    refine lv_istore_n (lv' := [(3, .int x11), (0, .ref (hM 0)), (1, .int x1), (2, .int x8)]) hx hb dX9_nextOrder_47 rfl hl (by decide) rfl (fun ls hl => ?_)
    obtain ⟨x16, hq17, hf⟩ := zb1_some hf
    refine L48 _ _ _ _ _ _ hq17 ?_ _ _ _ hP hD hS (lv_sub hl [1, 2, 3, 0] rfl)
    intro H locs ls hP hD hS hl
    refine lv_aload_n hx hb dX9_nextOrder_69 rfl (lv_at hl 0 rfl) ?_
    refine va_get (D := D) (ci := 9) (v := .ref (hM 12)) (C := RX9) (T := TX9) (N := 23) hx hb hts hi9 hown hK hP 0 rfl rfl 17 (Nat.le_of_ble_eq_true rfl) (hts _ (List.mem_cons_of_mem _ wd_669)) (fun _ h9 => h9) rfl dX9_nextOrder_70 ?_
    refine lv_iload_n hx hb dX9_nextOrder_73 rfl (lv_at hl 2 rfl) ?_
    obtain ⟨i_v18, v18, e_v18, hf⟩ := zl_some hf
    refine va_iald (n := 7) (f := M 17) (cA := cI) hx hb hK hP 12 0 rfl rfl i_v18 dX9_nextOrder_74 ?_
    refine zt e_v18 ?_
    refine lv_istore (lv' := [(4, .int v18), (0, .ref (hM 0)), (1, .int x1), (2, .int x8), (3, .int x16)]) hx hb dX9_nextOrder_75 hl (by decide) rfl (fun ls hl => ?_)
    refine lv_aload_n hx hb dX9_nextOrder_77 rfl (lv_at hl 1 rfl) ?_
    refine va_get (D := D) (ci := 9) (v := .ref (hM 12)) (C := RX9) (T := TX9) (N := 23) hx hb hts hi9 hown hK hP 0 rfl rfl 17 (Nat.le_of_ble_eq_true rfl) (hts _ (List.mem_cons_of_mem _ wd_669)) (fun _ h9 => h9) rfl dX9_nextOrder_78 ?_
    refine lv_iload_n hx hb dX9_nextOrder_81 rfl (lv_at hl 3 rfl) ?_
    refine lv_aload_n hx hb dX9_nextOrder_82 rfl (lv_at hl 1 rfl) ?_
    refine va_get (D := D) (ci := 9) (v := .ref (hM 12)) (C := RX9) (T := TX9) (N := 23) hx hb hts hi9 hown hK hP 0 rfl rfl 17 (Nat.le_of_ble_eq_true rfl) (hts _ (List.mem_cons_of_mem _ wd_669)) (fun _ h9 => h9) rfl dX9_nextOrder_83 ?_
    refine lv_iload_n hx hb dX9_nextOrder_86 rfl (lv_at hl 4 rfl) ?_
    obtain ⟨i_v19, v19, e_v19, hf⟩ := zl_some hf
    refine va_iald (n := 7) (f := M 17) (cA := cI) hx hb hK hP 12 0 rfl rfl i_v19 dX9_nextOrder_87 ?_
    refine zt e_v19 ?_
    obtain ⟨i_M_20, M_20, e_M_20, hf⟩ := zw_some hf
    refine va_iast (n := 7) (f := M 17) (cA := cI) hx hb hK hP hD hS 12 0 rfl rfl i_M_20 dX9_nextOrder_88 (fun H locs hP hD hS => ?_)
    have hP : va_P D vwCl (w9 cI cB hM (zs M 17 (upd (M 17) x8.toNatClampNeg v19))) H := hP
    have hD : va_D A (w9 cI cB hM (zs M 17 (upd (M 17) x8.toNatClampNeg v19))) := hD
    rw [← e_M_20] at hP hD
    refine lv_aload_n hx hb dX9_nextOrder_89 rfl (lv_at hl 1 rfl) ?_
    refine va_get (D := D) (ci := 9) (v := .ref (hM 12)) (C := RX9) (T := TX9) (N := 23) hx hb hts hi9 hown hK hP 0 rfl rfl 17 (Nat.le_of_ble_eq_true rfl) (hts _ (List.mem_cons_of_mem _ wd_669)) (fun _ h9 => h9) rfl dX9_nextOrder_90 ?_
    refine lv_iload_n hx hb dX9_nextOrder_93 rfl (lv_at hl 4 rfl) ?_
    refine lv_iload hx hb dX9_nextOrder_94 (lv_at hl 0 rfl) ?_
    obtain ⟨i_M_21, M_21, e_M_21, hf⟩ := zw_some hf
    refine va_iast (n := 7) (f := M_20 17) (cA := cI) hx hb hK hP hD hS 12 0 rfl rfl i_M_21 dX9_nextOrder_96 (fun H locs hP hD hS => ?_)
    have hP : va_P D vwCl (w9 cI cB hM (zs M_20 17 (upd (M_20 17) x16.toNatClampNeg v18))) H := hP
    have hD : va_D A (w9 cI cB hM (zs M_20 17 (upd (M_20 17) x16.toNatClampNeg v18))) := hD
    rw [← e_M_21] at hP hD
    refine lv_iload_n hx hb dX9_nextOrder_97 rfl (lv_at hl 3 rfl) ?_
    refine lv_iconst (v := 1) hx hb dX9_nextOrder_98 (by decide) ?_
    refine lv_iadd hx hb dX9_nextOrder_99 ?_
    obtain ⟨x22, e_x22, hf⟩ := zv_some hf
    refine zt e_x22 ?_
    refine lv_istore (lv' := [(5, .int x22), (4, .int v18), (0, .ref (hM 0)), (1, .int x1), (2, .int x8), (3, .int x16)]) hx hb dX9_nextOrder_100 hl (by decide) rfl (fun ls hl => ?_)
    refine lv_iload_n hx hb dX9_nextOrder_102 rfl (lv_at hl 3 rfl) ?_
    refine lv_iconst (v := 1) hx hb dX9_nextOrder_103 (by decide) ?_
    refine lv_isub hx hb dX9_nextOrder_104 ?_
    obtain ⟨x23, e_x23, hf⟩ := zv_some hf
    refine zt e_x23 ?_
    refine lv_istore (lv' := [(6, .int x23), (5, .int x22), (4, .int v18), (0, .ref (hM 0)), (1, .int x1), (2, .int x8), (3, .int x16)]) hx hb dX9_nextOrder_105 hl (by decide) rfl (fun ls hl => ?_)
    obtain ⟨x31, x32, x33, M_34, hq35, hf⟩ := zb4_some hf
    refine L107 _ _ _ _ _ _ _ _ _ _ _ _ hq35 ?_ _ _ _ hP hD hS (lv_sub hl [3, 4, 5, 6, 2, 1, 0] rfl)
    intro H locs ls hP hD hS hl
    refine lv_iconst (v := 1) hx hb dX9_nextOrder_155 (by decide) ?_
    cases hf
    exact zretB hx hb hr hlocks rfl hK hP hD hS dX9_nextOrder_156
  · replace hf := zif c_10 hf
    refine lv_iconst (v := 0) hx hb dX9_nextOrder_42 (by decide) ?_
    cases hf
    exact zretB hx hb hr hlocks rfl hK hP hD hS dX9_nextOrder_43
def L_X9_order_24 (l1 : Int32) : Nat → Int32 → zMm → Option (Int32 × zMm)
  | 0, _, _ => none
  | n + 1, l2, M => if (7 : Int32) ≤ l2 then some (l2, M) else zw 7 M 17 l2 l2 (fun M_5 => zv (l2 + 1) (fun (x6 : Int32) => L_X9_order_24 l1 n x6 M_5))
def L_X9_order_54 (l1 : Int32) (l2 : Int32) (l3 : Int32) : Nat → Int32 → zMm → Option (Int32 × zMm)
  | 0, _, _ => none
  | n + 1, l4, M => if (M 6 0) ≤ l4 then some (l4, M) else zl 7 (M 17) l4 (fun v12 => zl 7 (M 17) l4 (fun v13 => zl 7 (M 17) l4 (fun v14 => zb1 (f_X9_slip (M 3 1) v14 l4) (fun (r15 : Int32) => zb1 (f_X9_cutOf M v13 r15) (fun (r17 : Int32) => zw 7 M 19 v12 r17 (fun M_19 => zv (l4 + 1) (fun (x20 : Int32) => L_X9_order_54 l1 l2 l3 n x20 M_19)))))))
def L_X9_order_134 (l1 : Int32) (l2 : Int32) (l3 : Int32) (l4 : Int32) : Nat → Int32 → zMm → Option (Int32 × zMm)
  | 0, _, _ => none
  | n + 1, l5, M => if (7 : Int32) ≤ l5 then some (l5, M) else zl 7 (M 17) l5 (fun v28 => zw 7 M 18 l5 v28 (fun M_29 => zv (l5 + 1) (fun (x30 : Int32) => L_X9_order_134 l1 l2 l3 l4 n x30 M_29)))
def L_X9_order_47 (l1 : Int32) : Nat → Int32 → Int32 → zMm → Option (Int32 × Int32 × zMm)
  | 0, _, _, _ => none
  | n + 1, l2, l3, M => if l3 = 0 then some (l2, l3, M) else zb2 (L_X9_order_54 l1 l2 l3 100000 0 M) (fun (x11 : Int32) (M_12 : zMm) => zb1 (f_X9_gaps M_12) (fun (r14 : Int32) => zb2 (if l2 < 0 then zb2 (L_X9_order_134 l1 r14 l3 r14 100000 0 M_12) (fun (x21 : Int32) (M_22 : zMm) => some (M_22, r14)) else if l2 ≤ r14 then some (M_12, l2) else zb2 (L_X9_order_134 l1 r14 l3 r14 100000 0 M_12) (fun (x25 : Int32) (M_26 : zMm) => some (M_26, r14))) (fun (M_17 : zMm) (x18 : Int32) => zb2 (f_X9_nextOrder M_17) (fun (r28 : Int32) (M_29 : zMm) => L_X9_order_47 l1 n x18 r28 M_29))))
def f_X9_order (M : zMm) (a1 : Int32) : Option (Int32 × zMm) := zb1 (f_X9_in (a1.toInt64) (-1) (((M 6 0) - 1).toInt64)) (fun (r1 : Int32) => if r1 = 0 then some (((-1) : Int32), M) else zb2 (L_X9_order_24 a1 100000 0 M) (fun (x7 : Int32) (M_8 : zMm) => zb3 (L_X9_order_47 a1 100000 (-1) 1 M_8) (fun (x31 : Int32) (x32 : Int32) (M_33 : zMm) => if (0 : Int32) ≤ a1 then zl 7 (M_33 18) a1 (fun v36 => some (v36, M_33)) else some (x31, M_33))))
abbrev ww_X9_order : List Cond := Cond.code yX9_order cX9_order 6 (some .int) :: wG
theorem q_X9_order : yX9_order.cls = RX9 ∧ yX9_order.cls ≠ "java/lang/invoke/MethodHandle" ∧ yX9_order.cls ≠ "java/lang/invoke/VarHandle" ∧ (parseMethodDescriptor yX9_order.desc).map (fun d => d.parameters.length) = some 1 := by decide +kernel
set_option maxHeartbeats 4000000 in
set_option maxRecDepth 100000 in
theorem c_X9_order (l : Launch) (D : va_G) (cI cB : ClassId) (hM : Nat → Nat) (M : zMm) (a1 : Int32) (r0 : Int32) (M0 : zMm) (hf : f_X9_order M a1 = some (r0, M0)) : zMi l yX9_order ww_X9_order ({ frames := 2, cells := 0, slots := 0, locals := 44 } : Room) D cI cB [.ref (hM 0), .int a1] (w9 cI cB hM M) r0 (w9 cI cB hM M0) := by
  refine zofI (cc := cX9_order) (maxL := 6) (ret := (some .int)) (by decide +kernel) rfl (Nat.le_of_ble_eq_true rfl) ?_
  intro p e s m below meth c A ls hx hb hml hr hown hts hlocks hK hP hD hS hA hl
  have hl : lv_has ls 6 [(0, .ref (hM 0)), (1, .int a1)] := hl
  have hown : s.vm.findClass RX9 = some m.cls := hown
  have hG : ∀ w ∈ wG, w ∈ ww_X9_order := fun w h => List.mem_cons_of_mem _ h
  have hi9 : ∀ w ∈ wsX90, w ∈ ww_X9_order := fun w h => List.mem_cons_of_mem _ (z_inX9 w h)
  have L134 : ∀ (l1 : Int32) (l2 : Int32) (l3 : Int32) (l4 : Int32) (n : Nat) (l5 : Int32) (M : zMm) (o5 : Int32) (oM : zMm), L_X9_order_134 l1 l2 l3 l4 n l5 M = some (o5, oM) → zAt p l e ({ frames := 2, cells := 0, slots := 0, locals := 44 } : Room) s m [.ref (hM 0), .int a1].toArray below meth c (MQ below (zQi D cI cB r0 (w9 cI cB hM M0) A) [.ref (hM 0), .int a1].toArray s 0 0 A) A D 6 (w9 cI cB hM oM) [(0, .ref (hM 0)), (1, .int l1), (2, .int l2), (3, .int l3), (4, .int l4), (5, .int o5)] 161 [] → zAt p l e ({ frames := 2, cells := 0, slots := 0, locals := 44 } : Room) s m [.ref (hM 0), .int a1].toArray below meth c (MQ below (zQi D cI cB r0 (w9 cI cB hM M0) A) [.ref (hM 0), .int a1].toArray s 0 0 A) A D 6 (w9 cI cB hM M) [(0, .ref (hM 0)), (1, .int l1), (2, .int l2), (3, .int l3), (4, .int l4), (5, .int l5)] 134 [] := by
    intro l1 l2 l3 l4 n
    induction n with
    | zero => intro l5 M o5 oM hf; simp [L_X9_order_134] at hf
    | succ n ih =>
      intro l5 M o5 oM hf hk H locs ls hP hD hS hl
      rw [L_X9_order_134] at hf
      refine lv_iload hx hb dX9_order_134 (lv_at hl 5 rfl) ?_
      refine lv_bipush (v := 7) hx hb dX9_order_136 (by decide) ?_
      refine lv_icmp_ge (tgt := 161) hx hb dX9_order_138 (by decide) (fun c_27 => ?_) (fun c_27 => ?_)
      · replace hf := zit c_27 hf
        cases hf
        exact hk _ _ _ hP hD hS (lv_sub hl [0, 1, 2, 3, 4, 5] rfl)
      · replace hf := zif c_27 hf
        refine lv_aload_n hx hb dX9_order_141 rfl (lv_at hl 0 rfl) ?_
        refine va_get (D := D) (ci := 9) (v := .ref (hM 13)) (C := RX9) (T := TX9) (N := 23) hx hb hts hi9 hown hK hP 0 rfl rfl 18 (Nat.le_of_ble_eq_true rfl) (hts _ (List.mem_cons_of_mem _ wd_670)) (fun _ h9 => h9) rfl dX9_order_142 ?_
        refine lv_iload hx hb dX9_order_145 (lv_at hl 5 rfl) ?_
        refine lv_aload_n hx hb dX9_order_147 rfl (lv_at hl 0 rfl) ?_
        refine va_get (D := D) (ci := 9) (v := .ref (hM 12)) (C := RX9) (T := TX9) (N := 23) hx hb hts hi9 hown hK hP 0 rfl rfl 17 (Nat.le_of_ble_eq_true rfl) (hts _ (List.mem_cons_of_mem _ wd_669)) (fun _ h9 => h9) rfl dX9_order_148 ?_
        refine lv_iload hx hb dX9_order_151 (lv_at hl 5 rfl) ?_
        obtain ⟨i_v28, v28, e_v28, hf⟩ := zl_some hf
        refine va_iald (n := 7) (f := M 17) (cA := cI) hx hb hK hP 12 0 rfl rfl i_v28 dX9_order_153 ?_
        refine zt e_v28 ?_
        obtain ⟨i_M_29, M_29, e_M_29, hf⟩ := zw_some hf
        refine va_iast (n := 7) (f := M 18) (cA := cI) hx hb hK hP hD hS 13 0 rfl rfl i_M_29 dX9_order_154 (fun H locs hP hD hS => ?_)
        have hP : va_P D vwCl (w9 cI cB hM (zs M 18 (upd (M 18) l5.toNatClampNeg v28))) H := hP
        have hD : va_D A (w9 cI cB hM (zs M 18 (upd (M 18) l5.toNatClampNeg v28))) := hD
        rw [← e_M_29] at hP hD
        obtain ⟨x30, e_x30, hf⟩ := zv_some hf
        refine lv_iinc (v := x30) (lv' := [(5, .int x30), (0, .ref (hM 0)), (1, .int l1), (2, .int l2), (3, .int l3), (4, .int l4)]) hx hb dX9_order_155 hl (k := 5) rfl (by rw [e_x30]; rfl) (by decide) rfl (fun ls hl => ?_)
        refine lv_goto (tgt := 134) hx hb dX9_order_158 (by decide) ?_
        exact ih _ _ _ _ hf hk _ _ _ hP hD hS (lv_sub hl [1, 2, 3, 4, 5, 0] rfl)
  have L54 : ∀ (l1 : Int32) (l2 : Int32) (l3 : Int32) (n : Nat) (l4 : Int32) (M : zMm) (o4 : Int32) (oM : zMm), L_X9_order_54 l1 l2 l3 n l4 M = some (o4, oM) → zAt p l e ({ frames := 2, cells := 0, slots := 0, locals := 44 } : Room) s m [.ref (hM 0), .int a1].toArray below meth c (MQ below (zQi D cI cB r0 (w9 cI cB hM M0) A) [.ref (hM 0), .int a1].toArray s 0 0 A) A D 6 (w9 cI cB hM oM) [(0, .ref (hM 0)), (1, .int l1), (2, .int l2), (3, .int l3), (4, .int o4)] 112 [] → zAt p l e ({ frames := 2, cells := 0, slots := 0, locals := 44 } : Room) s m [.ref (hM 0), .int a1].toArray below meth c (MQ below (zQi D cI cB r0 (w9 cI cB hM M0) A) [.ref (hM 0), .int a1].toArray s 0 0 A) A D 6 (w9 cI cB hM M) [(0, .ref (hM 0)), (1, .int l1), (2, .int l2), (3, .int l3), (4, .int l4)] 54 [] := by
    intro l1 l2 l3 n
    induction n with
    | zero => intro l4 M o4 oM hf; simp [L_X9_order_54] at hf
    | succ n ih =>
      intro l4 M o4 oM hf hk H locs ls hP hD hS hl
      rw [L_X9_order_54] at hf
      refine lv_iload hx hb dX9_order_54 (lv_at hl 4 rfl) ?_
      refine lv_aload_n hx hb dX9_order_56 rfl (lv_at hl 0 rfl) ?_
      refine va_get (D := D) (ci := 9) (v := .ref (hM 5)) (C := RX9) (T := TX9) (N := 23) hx hb hts hi9 hown hK hP 0 rfl rfl 6 (Nat.le_of_ble_eq_true rfl) (hts _ (List.mem_cons_of_mem _ wd_658)) (fun _ h9 => h9) rfl dX9_order_57 ?_
      refine lv_iconst (v := 0) hx hb dX9_order_60 (by decide) ?_
      refine va_iald (n := 2) (f := M 6) (cA := cI) hx hb hK hP 5 0 rfl rfl (z_in (by decide)) dX9_order_61 ?_
      refine z_tc (k := 0) (by decide) ?_
      refine lv_icmp_ge (tgt := 112) hx hb dX9_order_62 (by decide) (fun c_11 => ?_) (fun c_11 => ?_)
      · replace hf := zit c_11 hf
        cases hf
        exact hk _ _ _ hP hD hS (lv_sub hl [0, 1, 2, 3, 4] rfl)
      · replace hf := zif c_11 hf
        refine lv_aload_n hx hb dX9_order_65 rfl (lv_at hl 0 rfl) ?_
        refine va_get (D := D) (ci := 9) (v := .ref (hM 14)) (C := RX9) (T := TX9) (N := 23) hx hb hts hi9 hown hK hP 0 rfl rfl 19 (Nat.le_of_ble_eq_true rfl) (hts _ (List.mem_cons_of_mem _ wd_671)) (fun _ h9 => h9) rfl dX9_order_66 ?_
        refine lv_aload_n hx hb dX9_order_69 rfl (lv_at hl 0 rfl) ?_
        refine va_get (D := D) (ci := 9) (v := .ref (hM 12)) (C := RX9) (T := TX9) (N := 23) hx hb hts hi9 hown hK hP 0 rfl rfl 17 (Nat.le_of_ble_eq_true rfl) (hts _ (List.mem_cons_of_mem _ wd_669)) (fun _ h9 => h9) rfl dX9_order_70 ?_
        refine lv_iload hx hb dX9_order_73 (lv_at hl 4 rfl) ?_
        obtain ⟨i_v12, v12, e_v12, hf⟩ := zl_some hf
        refine va_iald (n := 7) (f := M 17) (cA := cI) hx hb hK hP 12 0 rfl rfl i_v12 dX9_order_75 ?_
        refine zt e_v12 ?_
        refine lv_aload_n hx hb dX9_order_76 rfl (lv_at hl 0 rfl) ?_
        refine lv_aload_n hx hb dX9_order_77 rfl (lv_at hl 0 rfl) ?_
        refine va_get (D := D) (ci := 9) (v := .ref (hM 12)) (C := RX9) (T := TX9) (N := 23) hx hb hts hi9 hown hK hP 0 rfl rfl 17 (Nat.le_of_ble_eq_true rfl) (hts _ (List.mem_cons_of_mem _ wd_669)) (fun _ h9 => h9) rfl dX9_order_78 ?_
        refine lv_iload hx hb dX9_order_81 (lv_at hl 4 rfl) ?_
        obtain ⟨i_v13, v13, e_v13, hf⟩ := zl_some hf
        refine va_iald (n := 7) (f := M 17) (cA := cI) hx hb hK hP 12 0 rfl rfl i_v13 dX9_order_83 ?_
        refine zt e_v13 ?_
        refine lv_aload_n hx hb dX9_order_84 rfl (lv_at hl 0 rfl) ?_
        refine va_get (D := D) (ci := 9) (v := .ref (hM 2)) (C := RX9) (T := TX9) (N := 23) hx hb hts hi9 hown hK hP 0 rfl rfl 3 (Nat.le_of_ble_eq_true rfl) (hts _ (List.mem_cons_of_mem _ wd_655)) (fun _ h9 => h9) rfl dX9_order_85 ?_
        refine lv_iconst (v := 1) hx hb dX9_order_88 (by decide) ?_
        refine va_iald (n := 6) (f := M 3) (cA := cI) hx hb hK hP 2 0 rfl rfl (z_in (by decide)) dX9_order_89 ?_
        refine z_tc (k := 1) (by decide) ?_
        refine lv_aload_n hx hb dX9_order_90 rfl (lv_at hl 0 rfl) ?_
        refine va_get (D := D) (ci := 9) (v := .ref (hM 12)) (C := RX9) (T := TX9) (N := 23) hx hb hts hi9 hown hK hP 0 rfl rfl 17 (Nat.le_of_ble_eq_true rfl) (hts _ (List.mem_cons_of_mem _ wd_669)) (fun _ h9 => h9) rfl dX9_order_91 ?_
        refine lv_iload hx hb dX9_order_94 (lv_at hl 4 rfl) ?_
        obtain ⟨i_v14, v14, e_v14, hf⟩ := zl_some hf
        refine va_iald (n := 7) (f := M 17) (cA := cI) hx hb hK hP 12 0 rfl rfl i_v14 dX9_order_96 ?_
        refine zt e_v14 ?_
        refine lv_iload hx hb dX9_order_97 (lv_at hl 4 rfl) ?_
        obtain ⟨r15, hq16, hf⟩ := zb1_some hf
        refine zcallSi (rest := [.int v13, .ref (hM 0), .int v12, .ref (hM 14)]) ⟨hx, hb, hml, hown, hts⟩ (c_X9_slip l D cI cB (M 3 1) v14 l4 r15 hq16) (z_cwS 3 hts (z_gS hG wd_782 wd_783 wd_15 wd_784) rfl rfl rfl q_X9_slip ⟨Nat.le_of_ble_eq_true rfl, Nat.le_of_ble_eq_true rfl⟩) hK hP hD hS hA rfl hl.1 (Nat.le_of_ble_eq_true rfl) dX9_order_99 ⟨Nat.zero_le _, Nat.zero_le _⟩ rfl (fun H locs hP hD hS => ?_)
        obtain ⟨r17, hq18, hf⟩ := zb1_some hf
        refine zcallVi (ws2 := (w9 cI cB hM M)) (rest := [.int v12, .ref (hM 14)]) ⟨hx, hb, hml, hown, hts⟩ (c_X9_cutOf l D cI cB hM M v13 r15 r17 hq18) (cwV 2 hts (z_gV hG wd_789 wd_791 wd_s29 wd_15 wd_792) rfl rfl rfl q_X9_cutOf ⟨Nat.le_of_ble_eq_true rfl, Nat.le_of_ble_eq_true rfl⟩) hK hP hD hS hA 9 rfl rfl rfl [0, 4, 6] [1, 2, 3, 5, 7, 8, 9, 10, 11, 12, 13, 14, 15, 16, 17] rfl rfl rfl rfl rfl rfl rfl hl.1 (Nat.le_of_ble_eq_true rfl) dX9_order_102 ⟨Nat.zero_le _, Nat.zero_le _⟩ rfl (fun H locs hP hD hS => ?_)
        obtain ⟨i_M_19, M_19, e_M_19, hf⟩ := zw_some hf
        refine va_iast (n := 7) (f := M 19) (cA := cI) hx hb hK hP hD hS 14 0 rfl rfl i_M_19 dX9_order_105 (fun H locs hP hD hS => ?_)
        have hP : va_P D vwCl (w9 cI cB hM (zs M 19 (upd (M 19) v12.toNatClampNeg r17))) H := hP
        have hD : va_D A (w9 cI cB hM (zs M 19 (upd (M 19) v12.toNatClampNeg r17))) := hD
        rw [← e_M_19] at hP hD
        obtain ⟨x20, e_x20, hf⟩ := zv_some hf
        refine lv_iinc (v := x20) (lv' := [(4, .int x20), (0, .ref (hM 0)), (1, .int l1), (2, .int l2), (3, .int l3)]) hx hb dX9_order_106 hl (k := 4) rfl (by rw [e_x20]; rfl) (by decide) rfl (fun ls hl => ?_)
        refine lv_goto (tgt := 54) hx hb dX9_order_109 (by decide) ?_
        exact ih _ _ _ _ hf hk _ _ _ hP hD hS (lv_sub hl [1, 2, 3, 4, 0] rfl)
  have L47 : ∀ (l1 : Int32) (n : Nat) (l2 : Int32) (l3 : Int32) (M : zMm) (o2 : Int32) (o3 : Int32) (oM : zMm), L_X9_order_47 l1 n l2 l3 M = some (o2, o3, oM) → zAt p l e ({ frames := 2, cells := 0, slots := 0, locals := 44 } : Room) s m [.ref (hM 0), .int a1].toArray below meth c (MQ below (zQi D cI cB r0 (w9 cI cB hM M0) A) [.ref (hM 0), .int a1].toArray s 0 0 A) A D 6 (w9 cI cB hM oM) [(0, .ref (hM 0)), (1, .int l1), (2, .int o2), (3, .int o3)] 169 [] → zAt p l e ({ frames := 2, cells := 0, slots := 0, locals := 44 } : Room) s m [.ref (hM 0), .int a1].toArray below meth c (MQ below (zQi D cI cB r0 (w9 cI cB hM M0) A) [.ref (hM 0), .int a1].toArray s 0 0 A) A D 6 (w9 cI cB hM M) [(0, .ref (hM 0)), (1, .int l1), (2, .int l2), (3, .int l3)] 47 [] := by
    intro l1 n
    induction n with
    | zero => intro l2 l3 M o2 o3 oM hf; simp [L_X9_order_47] at hf
    | succ n ih =>
      intro l2 l3 M o2 o3 oM hf hk H locs ls hP hD hS hl
      rw [L_X9_order_47] at hf
      refine lv_iload_n hx hb dX9_order_47 rfl (lv_at hl 3 rfl) ?_
      refine lv_if_eq (tgt := 169) hx hb dX9_order_48 (by decide) (fun c_10 => ?_) (fun c_10 => ?_)
      · replace hf := zit c_10 hf
        cases hf
        exact hk _ _ _ hP hD hS (lv_sub hl [0, 1, 2, 3] rfl)
      · replace hf := zif c_10 hf
        refine lv_iconst (v := 0) hx hb dX9_order_51 (by decide) ?_
        refine lv_istore (lv' := [(4, .int 0), (0, .ref (hM 0)), (1, .int l1), (2, .int l2), (3, .int l3)]) hx hb dX9_order_52 hl (by decide) rfl (fun ls hl => ?_)
        obtain ⟨x11, M_12, hq13, hf⟩ := zb2_some hf
        refine L54 _ _ _ _ _ _ _ _ hq13 ?_ _ _ _ hP hD hS (lv_sub hl [1, 2, 3, 4, 0] rfl)
        intro H locs ls hP hD hS hl
        refine lv_aload_n hx hb dX9_order_112 rfl (lv_at hl 0 rfl) ?_
        obtain ⟨r14, hq15, hf⟩ := zb1_some hf
        refine zcallVi (ws2 := (w9 cI cB hM M_12)) (rest := []) ⟨hx, hb, hml, hown, hts⟩ (c_X9_gaps l D cI cB hM M_12 r14 hq15) (cwV 0 hts (z_gV hG wd_802 wd_804 wd_s31 wd_15 wd_805) rfl rfl rfl q_X9_gaps ⟨Nat.le_of_ble_eq_true rfl, Nat.le_of_ble_eq_true rfl⟩) hK hP hD hS hA 9 rfl rfl rfl [0, 7, 8, 14] [1, 2, 3, 4, 5, 6, 9, 10, 11, 12, 13, 15, 16, 17] rfl rfl rfl rfl rfl rfl rfl hl.1 (Nat.le_of_ble_eq_true rfl) dX9_order_113 ⟨Nat.zero_le _, Nat.zero_le _⟩ rfl (fun H locs hP hD hS => ?_)
        refine lv_istore (lv' := [(4, .int r14), (0, .ref (hM 0)), (1, .int l1), (2, .int l2), (3, .int l3)]) hx hb dX9_order_116 hl (by decide) rfl (fun ls hl => ?_)
        refine lv_iload_n hx hb dX9_order_118 rfl (lv_at hl 3 rfl) ?_
        obtain ⟨M_17, x18, hq19, hf⟩ := zb2_some hf
        have J20 : zAt p l e ({ frames := 2, cells := 0, slots := 0, locals := 44 } : Room) s m [.ref (hM 0), .int a1].toArray below meth c (MQ below (zQi D cI cB r0 (w9 cI cB hM M0) A) [.ref (hM 0), .int a1].toArray s 0 0 A) A D 6 (w9 cI cB hM M_17) [(0, .ref (hM 0)), (1, .int l1), (2, .int x18), (3, .int l3), (4, .int r14)] 161 [] := by
          intro H locs ls hP hD hS hl
          refine lv_aload_n hx hb dX9_order_161 rfl (lv_at hl 0 rfl) ?_
          obtain ⟨r28, M_29, hq30, hf⟩ := zb2_some hf
          refine zcallVi (ws2 := (w9 cI cB hM M_29)) (rest := []) ⟨hx, hb, hml, hown, hts⟩ (c_X9_nextOrder l D cI cB hM M_17 r28 M_29 hq30) (cwV 0 hts (z_gV hG wd_846 wd_848 wd_s36 wd_15 wd_849) rfl rfl rfl q_X9_nextOrder ⟨Nat.le_of_ble_eq_true rfl, Nat.le_of_ble_eq_true rfl⟩) hK hP hD hS hA 9 rfl rfl rfl [0, 1, 2, 3, 4, 5, 6, 7, 8, 9, 10, 11, 12, 13, 14, 15, 16, 17] [] rfl rfl rfl rfl rfl rfl rfl hl.1 (Nat.le_of_ble_eq_true rfl) dX9_order_162 ⟨Nat.zero_le _, Nat.zero_le _⟩ rfl (fun H locs hP hD hS => ?_)
          refine lv_istore_n (lv' := [(3, .int r28), (0, .ref (hM 0)), (1, .int l1), (2, .int x18), (4, .int r14)]) hx hb dX9_order_165 rfl hl (by decide) rfl (fun ls hl => ?_)
          refine lv_goto (tgt := 47) hx hb dX9_order_166 (by decide) ?_
          exact ih _ _ _ _ _ _ hf hk _ _ _ hP hD hS (lv_sub hl [1, 2, 3, 0] rfl)
        replace hf := hq19
        refine lv_if_lt (tgt := 128) hx hb dX9_order_119 (by decide) (fun c_16 => ?_) (fun c_16 => ?_)
        · replace hf := zit c_16 hf
          refine lv_iload hx hb dX9_order_128 (lv_at hl 0 rfl) ?_
          refine lv_istore_n (lv' := [(2, .int r14), (4, .int r14), (0, .ref (hM 0)), (1, .int l1), (3, .int l3)]) hx hb dX9_order_130 rfl hl (by decide) rfl (fun ls hl => ?_)
          refine lv_iconst (v := 0) hx hb dX9_order_131 (by decide) ?_
          refine lv_istore (lv' := [(5, .int 0), (2, .int r14), (4, .int r14), (0, .ref (hM 0)), (1, .int l1), (3, .int l3)]) hx hb dX9_order_132 hl (by decide) rfl (fun ls hl => ?_)
          obtain ⟨x21, M_22, hq23, hf⟩ := zb2_some hf
          refine L134 _ _ _ _ _ _ _ _ _ hq23 ?_ _ _ _ hP hD hS (lv_sub hl [3, 4, 1, 5, 2, 0] rfl)
          intro H locs ls hP hD hS hl
          cases hf
          exact J20 _ _ _ hP hD hS (lv_sub hl [0, 1, 2, 3, 4] rfl)
        · replace hf := zif c_16 hf
          refine lv_iload hx hb dX9_order_122 (lv_at hl 0 rfl) ?_
          refine lv_iload_n hx hb dX9_order_124 rfl (lv_at hl 3 rfl) ?_
          refine lv_icmp_ge (tgt := 161) hx hb dX9_order_125 (by decide) (fun c_24 => ?_) (fun c_24 => ?_)
          · replace hf := zit c_24 hf
            cases hf
            exact J20 _ _ _ hP hD hS (lv_sub hl [1, 2, 3, 4, 0] rfl)
          · replace hf := zif c_24 hf
            refine lv_iload hx hb dX9_order_128 (lv_at hl 0 rfl) ?_
            refine lv_istore_n (lv' := [(2, .int r14), (4, .int r14), (0, .ref (hM 0)), (1, .int l1), (3, .int l3)]) hx hb dX9_order_130 rfl hl (by decide) rfl (fun ls hl => ?_)
            refine lv_iconst (v := 0) hx hb dX9_order_131 (by decide) ?_
            refine lv_istore (lv' := [(5, .int 0), (2, .int r14), (4, .int r14), (0, .ref (hM 0)), (1, .int l1), (3, .int l3)]) hx hb dX9_order_132 hl (by decide) rfl (fun ls hl => ?_)
            obtain ⟨x25, M_26, hq27, hf⟩ := zb2_some hf
            refine L134 _ _ _ _ _ _ _ _ _ hq27 ?_ _ _ _ hP hD hS (lv_sub hl [3, 4, 1, 5, 2, 0] rfl)
            intro H locs ls hP hD hS hl
            cases hf
            exact J20 _ _ _ hP hD hS (lv_sub hl [0, 1, 2, 3, 4] rfl)
  have L24 : ∀ (l1 : Int32) (n : Nat) (l2 : Int32) (M : zMm) (o2 : Int32) (oM : zMm), L_X9_order_24 l1 n l2 M = some (o2, oM) → zAt p l e ({ frames := 2, cells := 0, slots := 0, locals := 44 } : Room) s m [.ref (hM 0), .int a1].toArray below meth c (MQ below (zQi D cI cB r0 (w9 cI cB hM M0) A) [.ref (hM 0), .int a1].toArray s 0 0 A) A D 6 (w9 cI cB hM oM) [(0, .ref (hM 0)), (1, .int l1), (2, .int o2)] 43 [] → zAt p l e ({ frames := 2, cells := 0, slots := 0, locals := 44 } : Room) s m [.ref (hM 0), .int a1].toArray below meth c (MQ below (zQi D cI cB r0 (w9 cI cB hM M0) A) [.ref (hM 0), .int a1].toArray s 0 0 A) A D 6 (w9 cI cB hM M) [(0, .ref (hM 0)), (1, .int l1), (2, .int l2)] 24 [] := by
    intro l1 n
    induction n with
    | zero => intro l2 M o2 oM hf; simp [L_X9_order_24] at hf
    | succ n ih =>
      intro l2 M o2 oM hf hk H locs ls hP hD hS hl
      rw [L_X9_order_24] at hf
      refine lv_iload_n hx hb dX9_order_24 rfl (lv_at hl 2 rfl) ?_
      refine lv_bipush (v := 7) hx hb dX9_order_25 (by decide) ?_
      refine lv_icmp_ge (tgt := 43) hx hb dX9_order_27 (by decide) (fun c_4 => ?_) (fun c_4 => ?_)
      · replace hf := zit c_4 hf
        cases hf
        exact hk _ _ _ hP hD hS (lv_sub hl [0, 1, 2] rfl)
      · replace hf := zif c_4 hf
        refine lv_aload_n hx hb dX9_order_30 rfl (lv_at hl 0 rfl) ?_
        refine va_get (D := D) (ci := 9) (v := .ref (hM 12)) (C := RX9) (T := TX9) (N := 23) hx hb hts hi9 hown hK hP 0 rfl rfl 17 (Nat.le_of_ble_eq_true rfl) (hts _ (List.mem_cons_of_mem _ wd_669)) (fun _ h9 => h9) rfl dX9_order_31 ?_
        refine lv_iload_n hx hb dX9_order_34 rfl (lv_at hl 2 rfl) ?_
        refine lv_iload_n hx hb dX9_order_35 rfl (lv_at hl 2 rfl) ?_
        obtain ⟨i_M_5, M_5, e_M_5, hf⟩ := zw_some hf
        refine va_iast (n := 7) (f := M 17) (cA := cI) hx hb hK hP hD hS 12 0 rfl rfl i_M_5 dX9_order_36 (fun H locs hP hD hS => ?_)
        have hP : va_P D vwCl (w9 cI cB hM (zs M 17 (upd (M 17) l2.toNatClampNeg l2))) H := hP
        have hD : va_D A (w9 cI cB hM (zs M 17 (upd (M 17) l2.toNatClampNeg l2))) := hD
        rw [← e_M_5] at hP hD
        obtain ⟨x6, e_x6, hf⟩ := zv_some hf
        refine lv_iinc (v := x6) (lv' := [(2, .int x6), (0, .ref (hM 0)), (1, .int l1)]) hx hb dX9_order_37 hl (k := 2) rfl (by rw [e_x6]; rfl) (by decide) rfl (fun ls hl => ?_)
        refine lv_goto (tgt := 24) hx hb dX9_order_40 (by decide) ?_
        exact ih _ _ _ _ hf hk _ _ _ hP hD hS (lv_sub hl [1, 2, 0] rfl)
  unfold f_X9_order at hf
  refine lv_iload_n hx hb dX9_order_0 rfl (lv_at hl 1 rfl) ?_
  refine lv_i2l hx hb dX9_order_1 rfl ?_
  refine lv_ldc2 (v := (-1)) hx hb hown (hts _ (List.mem_cons_of_mem _ wd_797)) dX9_order_2 ?_
  refine lv_aload_n hx hb dX9_order_5 rfl (lv_at hl 0 rfl) ?_
  refine va_get (D := D) (ci := 9) (v := .ref (hM 5)) (C := RX9) (T := TX9) (N := 23) hx hb hts hi9 hown hK hP 0 rfl rfl 6 (Nat.le_of_ble_eq_true rfl) (hts _ (List.mem_cons_of_mem _ wd_658)) (fun _ h9 => h9) rfl dX9_order_6 ?_
  refine lv_iconst (v := 0) hx hb dX9_order_9 (by decide) ?_
  refine va_iald (n := 2) (f := M 6) (cA := cI) hx hb hK hP 5 0 rfl rfl (z_in (by decide)) dX9_order_10 ?_
  refine z_tc (k := 0) (by decide) ?_
  refine lv_iconst (v := 1) hx hb dX9_order_11 (by decide) ?_
  refine lv_isub hx hb dX9_order_12 ?_
  refine lv_i2l hx hb dX9_order_13 rfl ?_
  obtain ⟨r1, hq2, hf⟩ := zb1_some hf
  refine zcallSi (rest := []) ⟨hx, hb, hml, hown, hts⟩ (c_X9_in l D cI cB (a1.toInt64) (-1) (((M 6 0) - 1).toInt64) r1 hq2) (z_cwS 3 hts (z_gS hG wd_727 wd_728 wd_15 wd_729) rfl rfl rfl q_X9_in ⟨Nat.le_of_ble_eq_true rfl, Nat.le_of_ble_eq_true rfl⟩) hK hP hD hS hA rfl hl.1 (Nat.le_of_ble_eq_true rfl) dX9_order_14 ⟨Nat.zero_le _, Nat.zero_le _⟩ rfl (fun H locs hP hD hS => ?_)
  refine lv_if_ne (tgt := 22) hx hb dX9_order_17 (by decide) (fun c_3 => ?_) (fun c_3 => ?_)
  · replace hf := zif c_3 hf
    refine lv_iconst (v := 0) hx hb dX9_order_22 (by decide) ?_
    refine lv_istore_n (lv' := [(2, .int 0), (0, .ref (hM 0)), (1, .int a1)]) hx hb dX9_order_23 rfl hl (by decide) rfl (fun ls hl => ?_)
    obtain ⟨x7, M_8, hq9, hf⟩ := zb2_some hf
    refine L24 _ _ _ _ _ _ hq9 ?_ _ _ _ hP hD hS (lv_sub hl [1, 2, 0] rfl)
    intro H locs ls hP hD hS hl
    refine lv_iconst (v := (-1)) hx hb dX9_order_43 (by decide) ?_
    refine lv_istore_n (lv' := [(2, .int (-1)), (0, .ref (hM 0)), (1, .int a1)]) hx hb dX9_order_44 rfl hl (by decide) rfl (fun ls hl => ?_)
    refine lv_iconst (v := 1) hx hb dX9_order_45 (by decide) ?_
    refine lv_istore_n (lv' := [(3, .int 1), (2, .int (-1)), (0, .ref (hM 0)), (1, .int a1)]) hx hb dX9_order_46 rfl hl (by decide) rfl (fun ls hl => ?_)
    obtain ⟨x31, x32, M_33, hq34, hf⟩ := zb3_some hf
    refine L47 _ _ _ _ _ _ _ _ hq34 ?_ _ _ _ hP hD hS (lv_sub hl [2, 3, 1, 0] rfl)
    intro H locs ls hP hD hS hl
    refine lv_iload_n hx hb dX9_order_169 rfl (lv_at hl 1 rfl) ?_
    refine lv_if_ge (tgt := 177) hx hb dX9_order_170 (by decide) (fun c_35 => ?_) (fun c_35 => ?_)
    · replace hf := zit c_35 hf
      refine lv_aload_n hx hb dX9_order_177 rfl (lv_at hl 0 rfl) ?_
      refine va_get (D := D) (ci := 9) (v := .ref (hM 13)) (C := RX9) (T := TX9) (N := 23) hx hb hts hi9 hown hK hP 0 rfl rfl 18 (Nat.le_of_ble_eq_true rfl) (hts _ (List.mem_cons_of_mem _ wd_670)) (fun _ h9 => h9) rfl dX9_order_178 ?_
      refine lv_iload_n hx hb dX9_order_181 rfl (lv_at hl 1 rfl) ?_
      obtain ⟨i_v36, v36, e_v36, hf⟩ := zl_some hf
      refine va_iald (n := 7) (f := M_33 18) (cA := cI) hx hb hK hP 13 0 rfl rfl i_v36 dX9_order_182 ?_
      refine zt e_v36 ?_
      cases hf
      exact zretI hx hb hr hlocks hK hP hD hS dX9_order_183
    · replace hf := zif c_35 hf
      refine lv_iload_n hx hb dX9_order_173 rfl (lv_at hl 2 rfl) ?_
      refine lv_goto (tgt := 183) hx hb dX9_order_174 (by decide) ?_
      cases hf
      exact zretI hx hb hr hlocks hK hP hD hS dX9_order_183
  · replace hf := zit c_3 hf
    refine lv_iconst (v := (-1)) hx hb dX9_order_20 (by decide) ?_
    cases hf
    exact zretI hx hb hr hlocks hK hP hD hS dX9_order_21
def L_X9_bribes_39 (l1 : Int32) (l2 : Int32) (l3 : Int32) (l4 : Int32) : Nat → Int32 → Int32 → zMm → Option (Int32 × Int32 × zMm)
  | 0, _, _, _ => none
  | n + 1, l5, l6, M => if (M 6 0) ≤ l6 then some (l5, l6, M) else zb1 (if ((l4 >>> (l6 &&& 31)) &&& 1) = 1 then some (1 : Int32) else some (0 : Int32)) (fun (y7 : Int32) => zb1 (if y7 = 0 then some (0 : Int32) else zl 42 (M 7) (((3 : Int32) * l6) + 2) (fun v14 => some v14)) (fun (y11 : Int32) => zv (l5 + y11) (fun (x15 : Int32) => zb1 (if y7 = 0 then zb1 (f_X9_slipNow M l6) (fun (r20 : Int32) => some r20) else some (0 : Int32)) (fun (y17 : Int32) => zb1 (f_X9_cutOf M l6 y17) (fun (r22 : Int32) => zw 7 M 19 l6 r22 (fun M_24 => zv (l6 + 1) (fun (x25 : Int32) => L_X9_bribes_39 l1 l2 l3 l4 n x15 x25 M_24)))))))
def L_X9_bribes_20 (l1 : Int32) : Nat → Int32 → Int32 → Int32 → zMm → Option (Int32 × Int32 × Int32 × zMm)
  | 0, _, _, _, _ => none
  | n + 1, l2, l3, l4, M => if ((1 : Int32) <<< ((M 6 0) &&& 31)) ≤ l4 then some (l2, l3, l4, M) else zb3 (L_X9_bribes_39 l1 l2 l3 l4 100000 0 0 M) (fun (x5 : Int32) (x6 : Int32) (M_7 : zMm) => zb1 (f_X9_isClosed M_7) (fun (r9 : Int32) => zb2 (if r9 = 0 then some (l2, l3) else if l2 < 0 then some (x5, l4) else if l2 ≤ x5 then some (l2, l3) else some (x5, l4)) (fun (x12 : Int32) (x13 : Int32) => zv (l4 + 1) (fun (x18 : Int32) => L_X9_bribes_20 l1 n x12 x13 x18 M_7))))
def f_X9_bribes (M : zMm) (a1 : Int32) : Option (Int32 × zMm) := zb1 (f_X9_in (a1.toInt64) 0 1) (fun (r1 : Int32) => if r1 = 0 then some (((-1) : Int32), M) else zb4 (L_X9_bribes_20 a1 100000 (-1) (-4) 0 M) (fun (x19 : Int32) (x20 : Int32) (x21 : Int32) (M_22 : zMm) => if x20 < 0 then some (x20, M_22) else if a1 = 1 then some (x20, M_22) else some (x19, M_22)))
abbrev ww_X9_bribes : List Cond := Cond.code yX9_bribes cX9_bribes 8 (some .int) :: wG
theorem q_X9_bribes : yX9_bribes.cls = RX9 ∧ yX9_bribes.cls ≠ "java/lang/invoke/MethodHandle" ∧ yX9_bribes.cls ≠ "java/lang/invoke/VarHandle" ∧ (parseMethodDescriptor yX9_bribes.desc).map (fun d => d.parameters.length) = some 1 := by decide +kernel
set_option maxHeartbeats 4000000 in
set_option maxRecDepth 100000 in
theorem c_X9_bribes (l : Launch) (D : va_G) (cI cB : ClassId) (hM : Nat → Nat) (M : zMm) (a1 : Int32) (r0 : Int32) (M0 : zMm) (hf : f_X9_bribes M a1 = some (r0, M0)) : zMi l yX9_bribes ww_X9_bribes ({ frames := 2, cells := 0, slots := 0, locals := 46 } : Room) D cI cB [.ref (hM 0), .int a1] (w9 cI cB hM M) r0 (w9 cI cB hM M0) := by
  refine zofI (cc := cX9_bribes) (maxL := 8) (ret := (some .int)) (by decide +kernel) rfl (Nat.le_of_ble_eq_true rfl) ?_
  intro p e s m below meth c A ls hx hb hml hr hown hts hlocks hK hP hD hS hA hl
  have hl : lv_has ls 8 [(0, .ref (hM 0)), (1, .int a1)] := hl
  have hown : s.vm.findClass RX9 = some m.cls := hown
  have hG : ∀ w ∈ wG, w ∈ ww_X9_bribes := fun w h => List.mem_cons_of_mem _ h
  have hi9 : ∀ w ∈ wsX90, w ∈ ww_X9_bribes := fun w h => List.mem_cons_of_mem _ (z_inX9 w h)
  have L39 : ∀ (l1 : Int32) (l2 : Int32) (l3 : Int32) (l4 : Int32) (n : Nat) (l5 : Int32) (l6 : Int32) (M : zMm) (o5 : Int32) (o6 : Int32) (oM : zMm), L_X9_bribes_39 l1 l2 l3 l4 n l5 l6 M = some (o5, o6, oM) → zAt p l e ({ frames := 2, cells := 0, slots := 0, locals := 46 } : Room) s m [.ref (hM 0), .int a1].toArray below meth c (MQ below (zQi D cI cB r0 (w9 cI cB hM M0) A) [.ref (hM 0), .int a1].toArray s 0 0 A) A D 8 (w9 cI cB hM oM) [(0, .ref (hM 0)), (1, .int l1), (2, .int l2), (3, .int l3), (4, .int l4), (5, .int o5), (6, .int o6)] 127 [] → zAt p l e ({ frames := 2, cells := 0, slots := 0, locals := 46 } : Room) s m [.ref (hM 0), .int a1].toArray below meth c (MQ below (zQi D cI cB r0 (w9 cI cB hM M0) A) [.ref (hM 0), .int a1].toArray s 0 0 A) A D 8 (w9 cI cB hM M) [(0, .ref (hM 0)), (1, .int l1), (2, .int l2), (3, .int l3), (4, .int l4), (5, .int l5), (6, .int l6)] 39 [] := by
    intro l1 l2 l3 l4 n
    induction n with
    | zero => intro l5 l6 M o5 o6 oM hf; simp [L_X9_bribes_39] at hf
    | succ n ih =>
      intro l5 l6 M o5 o6 oM hf hk H locs ls hP hD hS hl
      rw [L_X9_bribes_39] at hf
      refine lv_iload hx hb dX9_bribes_39 (lv_at hl 6 rfl) ?_
      refine lv_aload_n hx hb dX9_bribes_41 rfl (lv_at hl 0 rfl) ?_
      refine va_get (D := D) (ci := 9) (v := .ref (hM 5)) (C := RX9) (T := TX9) (N := 23) hx hb hts hi9 hown hK hP 0 rfl rfl 6 (Nat.le_of_ble_eq_true rfl) (hts _ (List.mem_cons_of_mem _ wd_658)) (fun _ h9 => h9) rfl dX9_bribes_42 ?_
      refine lv_iconst (v := 0) hx hb dX9_bribes_45 (by decide) ?_
      refine va_iald (n := 2) (f := M 6) (cA := cI) hx hb hK hP 5 0 rfl rfl (z_in (by decide)) dX9_bribes_46 ?_
      refine z_tc (k := 0) (by decide) ?_
      refine lv_icmp_ge (tgt := 127) hx hb dX9_bribes_47 (by decide) (fun c_5 => ?_) (fun c_5 => ?_)
      · replace hf := zit c_5 hf
        cases hf
        exact hk _ _ _ hP hD hS (lv_sub hl [0, 1, 2, 3, 4, 5, 6] rfl)
      · replace hf := zif c_5 hf
        refine lv_iload hx hb dX9_bribes_50 (lv_at hl 4 rfl) ?_
        refine lv_iload hx hb dX9_bribes_52 (lv_at hl 6 rfl) ?_
        refine lv_ishr hx hb dX9_bribes_54 ?_
        refine lv_iconst (v := 1) hx hb dX9_bribes_55 (by decide) ?_
        refine lv_iand hx hb dX9_bribes_56 ?_
        refine lv_iconst (v := 1) hx hb dX9_bribes_57 (by decide) ?_
        obtain ⟨y7, hq8, hf⟩ := zb1_some hf
        have J9 : zAt p l e ({ frames := 2, cells := 0, slots := 0, locals := 46 } : Room) s m [.ref (hM 0), .int a1].toArray below meth c (MQ below (zQi D cI cB r0 (w9 cI cB hM M0) A) [.ref (hM 0), .int a1].toArray s 0 0 A) A D 8 (w9 cI cB hM M) [(0, .ref (hM 0)), (1, .int l1), (2, .int l2), (3, .int l3), (4, .int l4), (5, .int l5), (6, .int l6)] 66 [.int y7] := by
          intro H locs ls hP hD hS hl
          refine lv_istore (lv' := [(7, .int y7), (0, .ref (hM 0)), (1, .int l1), (2, .int l2), (3, .int l3), (4, .int l4), (5, .int l5), (6, .int l6)]) hx hb dX9_bribes_66 hl (by decide) rfl (fun ls hl => ?_)
          refine lv_iload hx hb dX9_bribes_68 (lv_at hl 6 rfl) ?_
          refine lv_iload hx hb dX9_bribes_70 (lv_at hl 0 rfl) ?_
          obtain ⟨y11, hq12, hf⟩ := zb1_some hf
          have J13 : zAt p l e ({ frames := 2, cells := 0, slots := 0, locals := 46 } : Room) s m [.ref (hM 0), .int a1].toArray below meth c (MQ below (zQi D cI cB r0 (w9 cI cB hM M0) A) [.ref (hM 0), .int a1].toArray s 0 0 A) A D 8 (w9 cI cB hM M) [(0, .ref (hM 0)), (1, .int l1), (2, .int l2), (3, .int l3), (4, .int l4), (5, .int l5), (6, .int l6), (7, .int y7)] 90 [.int y11, .int l5] := by
            intro H locs ls hP hD hS hl
            refine lv_iadd hx hb dX9_bribes_90 ?_
            obtain ⟨x15, e_x15, hf⟩ := zv_some hf
            refine zt e_x15 ?_
            refine lv_istore (lv' := [(5, .int x15), (0, .ref (hM 0)), (1, .int l1), (2, .int l2), (3, .int l3), (4, .int l4), (6, .int l6), (7, .int y7)]) hx hb dX9_bribes_91 hl (by decide) rfl (fun ls hl => ?_)
            refine lv_aload_n hx hb dX9_bribes_93 rfl (lv_at hl 1 rfl) ?_
            refine va_get (D := D) (ci := 9) (v := .ref (hM 14)) (C := RX9) (T := TX9) (N := 23) hx hb hts hi9 hown hK hP 0 rfl rfl 19 (Nat.le_of_ble_eq_true rfl) (hts _ (List.mem_cons_of_mem _ wd_671)) (fun _ h9 => h9) rfl dX9_bribes_94 ?_
            refine lv_iload hx hb dX9_bribes_97 (lv_at hl 6 rfl) ?_
            refine lv_aload_n hx hb dX9_bribes_99 rfl (lv_at hl 1 rfl) ?_
            refine lv_iload hx hb dX9_bribes_100 (lv_at hl 6 rfl) ?_
            refine lv_iload hx hb dX9_bribes_102 (lv_at hl 7 rfl) ?_
            obtain ⟨y17, hq18, hf⟩ := zb1_some hf
            have J19 : zAt p l e ({ frames := 2, cells := 0, slots := 0, locals := 46 } : Room) s m [.ref (hM 0), .int a1].toArray below meth c (MQ below (zQi D cI cB r0 (w9 cI cB hM M0) A) [.ref (hM 0), .int a1].toArray s 0 0 A) A D 8 (w9 cI cB hM M) [(0, .ref (hM 0)), (1, .int l1), (2, .int l2), (3, .int l3), (4, .int l4), (5, .int x15), (6, .int l6), (7, .int y7)] 117 [.int y17, .int l6, .ref (hM 0), .int l6, .ref (hM 14)] := by
              intro H locs ls hP hD hS hl
              obtain ⟨r22, hq23, hf⟩ := zb1_some hf
              refine zcallVi (ws2 := (w9 cI cB hM M)) (rest := [.int l6, .ref (hM 14)]) ⟨hx, hb, hml, hown, hts⟩ (c_X9_cutOf l D cI cB hM M l6 y17 r22 hq23) (cwV 2 hts (z_gV hG wd_789 wd_791 wd_s29 wd_15 wd_792) rfl rfl rfl q_X9_cutOf ⟨Nat.le_of_ble_eq_true rfl, Nat.le_of_ble_eq_true rfl⟩) hK hP hD hS hA 9 rfl rfl rfl [0, 4, 6] [1, 2, 3, 5, 7, 8, 9, 10, 11, 12, 13, 14, 15, 16, 17] rfl rfl rfl rfl rfl rfl rfl hl.1 (Nat.le_of_ble_eq_true rfl) dX9_bribes_117 ⟨Nat.zero_le _, Nat.zero_le _⟩ rfl (fun H locs hP hD hS => ?_)
              obtain ⟨i_M_24, M_24, e_M_24, hf⟩ := zw_some hf
              refine va_iast (n := 7) (f := M 19) (cA := cI) hx hb hK hP hD hS 14 0 rfl rfl i_M_24 dX9_bribes_120 (fun H locs hP hD hS => ?_)
              have hP : va_P D vwCl (w9 cI cB hM (zs M 19 (upd (M 19) l6.toNatClampNeg r22))) H := hP
              have hD : va_D A (w9 cI cB hM (zs M 19 (upd (M 19) l6.toNatClampNeg r22))) := hD
              rw [← e_M_24] at hP hD
              obtain ⟨x25, e_x25, hf⟩ := zv_some hf
              refine lv_iinc (v := x25) (lv' := [(6, .int x25), (0, .ref (hM 0)), (1, .int l1), (2, .int l2), (3, .int l3), (4, .int l4), (5, .int x15), (7, .int y7)]) hx hb dX9_bribes_121 hl (k := 6) rfl (by rw [e_x25]; rfl) (by decide) rfl (fun ls hl => ?_)
              refine lv_goto (tgt := 39) hx hb dX9_bribes_124 (by decide) ?_
              exact ih _ _ _ _ _ _ hf hk _ _ _ hP hD hS (lv_sub hl [1, 2, 3, 4, 5, 6, 0] rfl)
            replace hf := hq18
            refine lv_if_eq (tgt := 111) hx hb dX9_bribes_104 (by decide) (fun c_16 => ?_) (fun c_16 => ?_)
            · replace hf := zit c_16 hf
              refine lv_aload_n hx hb dX9_bribes_111 rfl (lv_at hl 1 rfl) ?_
              refine lv_iload hx hb dX9_bribes_112 (lv_at hl 6 rfl) ?_
              obtain ⟨r20, hq21, hf⟩ := zb1_some hf
              refine zcallVi (ws2 := (w9 cI cB hM M)) (rest := [.int l6, .ref (hM 0), .int l6, .ref (hM 14)]) ⟨hx, hb, hml, hown, hts⟩ (c_X9_slipNow l D cI cB hM M l6 r20 hq21) (cwV 1 hts (z_gV hG wd_778 wd_780 wd_s28 wd_15 wd_781) rfl rfl rfl q_X9_slipNow ⟨Nat.le_of_ble_eq_true rfl, Nat.le_of_ble_eq_true rfl⟩) hK hP hD hS hA 9 rfl rfl rfl [0, 2, 9] [1, 3, 4, 5, 6, 7, 8, 10, 11, 12, 13, 14, 15, 16, 17] rfl rfl rfl rfl rfl rfl rfl hl.1 (Nat.le_of_ble_eq_true rfl) dX9_bribes_114 ⟨Nat.zero_le _, Nat.zero_le _⟩ rfl (fun H locs hP hD hS => ?_)
              cases hf
              exact J19 _ _ _ hP hD hS (lv_sub hl [1, 2, 3, 4, 5, 0, 6, 7] rfl)
            · replace hf := zif c_16 hf
              refine lv_iconst (v := 0) hx hb dX9_bribes_107 (by decide) ?_
              refine lv_goto (tgt := 117) hx hb dX9_bribes_108 (by decide) ?_
              cases hf
              exact J19 _ _ _ hP hD hS (lv_sub hl [1, 2, 3, 4, 5, 0, 6, 7] rfl)
          replace hf := hq12
          refine lv_if_eq (tgt := 89) hx hb dX9_bribes_72 (by decide) (fun c_10 => ?_) (fun c_10 => ?_)
          · replace hf := zit c_10 hf
            refine lv_iconst (v := 0) hx hb dX9_bribes_89 (by decide) ?_
            cases hf
            exact J13 _ _ _ hP hD hS (lv_sub hl [1, 2, 3, 4, 5, 6, 7, 0] rfl)
          · replace hf := zif c_10 hf
            refine lv_aload_n hx hb dX9_bribes_75 rfl (lv_at hl 1 rfl) ?_
            refine va_get (D := D) (ci := 9) (v := .ref (hM 6)) (C := RX9) (T := TX9) (N := 23) hx hb hts hi9 hown hK hP 0 rfl rfl 7 (Nat.le_of_ble_eq_true rfl) (hts _ (List.mem_cons_of_mem _ wd_659)) (fun _ h9 => h9) rfl dX9_bribes_76 ?_
            refine lv_iconst (v := 3) hx hb dX9_bribes_79 (by decide) ?_
            refine lv_iload hx hb dX9_bribes_80 (lv_at hl 7 rfl) ?_
            refine lv_imul hx hb dX9_bribes_82 ?_
            refine lv_iconst (v := 2) hx hb dX9_bribes_83 (by decide) ?_
            refine lv_iadd hx hb dX9_bribes_84 ?_
            obtain ⟨i_v14, v14, e_v14, hf⟩ := zl_some hf
            refine va_iald (n := 42) (f := M 7) (cA := cI) hx hb hK hP 6 0 rfl rfl i_v14 dX9_bribes_85 ?_
            refine zt e_v14 ?_
            refine lv_goto (tgt := 90) hx hb dX9_bribes_86 (by decide) ?_
            cases hf
            exact J13 _ _ _ hP hD hS (lv_sub hl [1, 2, 3, 4, 5, 6, 7, 0] rfl)
        replace hf := hq8
        refine lv_icmp_ne (tgt := 65) hx hb dX9_bribes_58 (by decide) (fun c_6 => ?_) (fun c_6 => ?_)
        · replace hf := zif c_6 hf
          refine lv_iconst (v := 0) hx hb dX9_bribes_65 (by decide) ?_
          cases hf
          exact J9 _ _ _ hP hD hS (lv_sub hl [0, 1, 2, 3, 4, 5, 6] rfl)
        · replace hf := zit c_6 hf
          refine lv_iconst (v := 1) hx hb dX9_bribes_61 (by decide) ?_
          refine lv_goto (tgt := 66) hx hb dX9_bribes_62 (by decide) ?_
          cases hf
          exact J9 _ _ _ hP hD hS (lv_sub hl [0, 1, 2, 3, 4, 5, 6] rfl)
  have L20 : ∀ (l1 : Int32) (n : Nat) (l2 : Int32) (l3 : Int32) (l4 : Int32) (M : zMm) (o2 : Int32) (o3 : Int32) (o4 : Int32) (oM : zMm), L_X9_bribes_20 l1 n l2 l3 l4 M = some (o2, o3, o4, oM) → zAt p l e ({ frames := 2, cells := 0, slots := 0, locals := 46 } : Room) s m [.ref (hM 0), .int a1].toArray below meth c (MQ below (zQi D cI cB r0 (w9 cI cB hM M0) A) [.ref (hM 0), .int a1].toArray s 0 0 A) A D 8 (w9 cI cB hM oM) [(0, .ref (hM 0)), (1, .int l1), (2, .int o2), (3, .int o3), (4, .int o4)] 156 [] → zAt p l e ({ frames := 2, cells := 0, slots := 0, locals := 46 } : Room) s m [.ref (hM 0), .int a1].toArray below meth c (MQ below (zQi D cI cB r0 (w9 cI cB hM M0) A) [.ref (hM 0), .int a1].toArray s 0 0 A) A D 8 (w9 cI cB hM M) [(0, .ref (hM 0)), (1, .int l1), (2, .int l2), (3, .int l3), (4, .int l4)] 20 [] := by
    intro l1 n
    induction n with
    | zero => intro l2 l3 l4 M o2 o3 o4 oM hf; simp [L_X9_bribes_20] at hf
    | succ n ih =>
      intro l2 l3 l4 M o2 o3 o4 oM hf hk H locs ls hP hD hS hl
      rw [L_X9_bribes_20] at hf
      refine lv_iload hx hb dX9_bribes_20 (lv_at hl 4 rfl) ?_
      refine lv_iconst (v := 1) hx hb dX9_bribes_22 (by decide) ?_
      refine lv_aload_n hx hb dX9_bribes_23 rfl (lv_at hl 0 rfl) ?_
      refine va_get (D := D) (ci := 9) (v := .ref (hM 5)) (C := RX9) (T := TX9) (N := 23) hx hb hts hi9 hown hK hP 0 rfl rfl 6 (Nat.le_of_ble_eq_true rfl) (hts _ (List.mem_cons_of_mem _ wd_658)) (fun _ h9 => h9) rfl dX9_bribes_24 ?_
      refine lv_iconst (v := 0) hx hb dX9_bribes_27 (by decide) ?_
      refine va_iald (n := 2) (f := M 6) (cA := cI) hx hb hK hP 5 0 rfl rfl (z_in (by decide)) dX9_bribes_28 ?_
      refine z_tc (k := 0) (by decide) ?_
      refine lv_ishl hx hb dX9_bribes_29 ?_
      refine lv_icmp_ge (tgt := 156) hx hb dX9_bribes_30 (by decide) (fun c_4 => ?_) (fun c_4 => ?_)
      · replace hf := zit c_4 hf
        cases hf
        exact hk _ _ _ hP hD hS (lv_sub hl [0, 1, 2, 3, 4] rfl)
      · replace hf := zif c_4 hf
        refine lv_iconst (v := 0) hx hb dX9_bribes_33 (by decide) ?_
        refine lv_istore (lv' := [(5, .int 0), (0, .ref (hM 0)), (1, .int l1), (2, .int l2), (3, .int l3), (4, .int l4)]) hx hb dX9_bribes_34 hl (by decide) rfl (fun ls hl => ?_)
        refine lv_iconst (v := 0) hx hb dX9_bribes_36 (by decide) ?_
        refine lv_istore (lv' := [(6, .int 0), (5, .int 0), (0, .ref (hM 0)), (1, .int l1), (2, .int l2), (3, .int l3), (4, .int l4)]) hx hb dX9_bribes_37 hl (by decide) rfl (fun ls hl => ?_)
        obtain ⟨x5, x6, M_7, hq8, hf⟩ := zb3_some hf
        refine L39 _ _ _ _ _ _ _ _ _ _ _ hq8 ?_ _ _ _ hP hD hS (lv_sub hl [2, 3, 4, 5, 6, 1, 0] rfl)
        intro H locs ls hP hD hS hl
        refine lv_aload_n hx hb dX9_bribes_127 rfl (lv_at hl 0 rfl) ?_
        obtain ⟨r9, hq10, hf⟩ := zb1_some hf
        refine zcallVi (ws2 := (w9 cI cB hM M_7)) (rest := []) ⟨hx, hb, hml, hown, hts⟩ (c_X9_isClosed l D cI cB hM M_7 r9 hq10) (cwV 0 hts (z_gV hG wd_814 wd_816 wd_s33 wd_15 wd_817) rfl rfl rfl q_X9_isClosed ⟨Nat.le_of_ble_eq_true rfl, Nat.le_of_ble_eq_true rfl⟩) hK hP hD hS hA 9 rfl rfl rfl [0, 2, 7, 8, 14] [1, 3, 4, 5, 6, 9, 10, 11, 12, 13, 15, 16, 17] rfl rfl rfl rfl rfl rfl rfl hl.1 (Nat.le_of_ble_eq_true rfl) dX9_bribes_128 ⟨Nat.zero_le _, Nat.zero_le _⟩ rfl (fun H locs hP hD hS => ?_)
        obtain ⟨x12, x13, hq14, hf⟩ := zb2_some hf
        have J15 : zAt p l e ({ frames := 2, cells := 0, slots := 0, locals := 46 } : Room) s m [.ref (hM 0), .int a1].toArray below meth c (MQ below (zQi D cI cB r0 (w9 cI cB hM M0) A) [.ref (hM 0), .int a1].toArray s 0 0 A) A D 8 (w9 cI cB hM M_7) [(0, .ref (hM 0)), (1, .int l1), (2, .int x12), (3, .int x13), (4, .int l4), (5, .int x5), (6, .int x6)] 150 [] := by
          intro H locs ls hP hD hS hl
          obtain ⟨x18, e_x18, hf⟩ := zv_some hf
          refine lv_iinc (v := x18) (lv' := [(4, .int x18), (0, .ref (hM 0)), (1, .int l1), (2, .int x12), (3, .int x13), (5, .int x5), (6, .int x6)]) hx hb dX9_bribes_150 hl (k := 4) rfl (by rw [e_x18]; rfl) (by decide) rfl (fun ls hl => ?_)
          refine lv_goto (tgt := 20) hx hb dX9_bribes_153 (by decide) ?_
          exact ih _ _ _ _ _ _ _ _ hf hk _ _ _ hP hD hS (lv_sub hl [1, 2, 3, 4, 0] rfl)
        replace hf := hq14
        refine lv_if_eq (tgt := 150) hx hb dX9_bribes_131 (by decide) (fun c_11 => ?_) (fun c_11 => ?_)
        · replace hf := zit c_11 hf
          cases hf
          exact J15 _ _ _ hP hD hS (lv_sub hl [0, 1, 2, 3, 4, 5, 6] rfl)
        · replace hf := zif c_11 hf
          refine lv_iload_n hx hb dX9_bribes_134 rfl (lv_at hl 2 rfl) ?_
          refine lv_if_lt (tgt := 144) hx hb dX9_bribes_135 (by decide) (fun c_16 => ?_) (fun c_16 => ?_)
          · replace hf := zit c_16 hf
            refine lv_iload hx hb dX9_bribes_144 (lv_at hl 5 rfl) ?_
            refine lv_istore_n (lv' := [(2, .int x5), (0, .ref (hM 0)), (1, .int l1), (3, .int l3), (4, .int l4), (5, .int x5), (6, .int x6)]) hx hb dX9_bribes_146 rfl hl (by decide) rfl (fun ls hl => ?_)
            refine lv_iload hx hb dX9_bribes_147 (lv_at hl 4 rfl) ?_
            refine lv_istore_n (lv' := [(3, .int l4), (2, .int x5), (0, .ref (hM 0)), (1, .int l1), (4, .int l4), (5, .int x5), (6, .int x6)]) hx hb dX9_bribes_149 rfl hl (by decide) rfl (fun ls hl => ?_)
            cases hf
            exact J15 _ _ _ hP hD hS (lv_sub hl [2, 3, 1, 0, 4, 5, 6] rfl)
          · replace hf := zif c_16 hf
            refine lv_iload hx hb dX9_bribes_138 (lv_at hl 5 rfl) ?_
            refine lv_iload_n hx hb dX9_bribes_140 rfl (lv_at hl 2 rfl) ?_
            refine lv_icmp_ge (tgt := 150) hx hb dX9_bribes_141 (by decide) (fun c_17 => ?_) (fun c_17 => ?_)
            · replace hf := zit c_17 hf
              cases hf
              exact J15 _ _ _ hP hD hS (lv_sub hl [0, 1, 2, 3, 4, 5, 6] rfl)
            · replace hf := zif c_17 hf
              refine lv_iload hx hb dX9_bribes_144 (lv_at hl 5 rfl) ?_
              refine lv_istore_n (lv' := [(2, .int x5), (0, .ref (hM 0)), (1, .int l1), (3, .int l3), (4, .int l4), (5, .int x5), (6, .int x6)]) hx hb dX9_bribes_146 rfl hl (by decide) rfl (fun ls hl => ?_)
              refine lv_iload hx hb dX9_bribes_147 (lv_at hl 4 rfl) ?_
              refine lv_istore_n (lv' := [(3, .int l4), (2, .int x5), (0, .ref (hM 0)), (1, .int l1), (4, .int l4), (5, .int x5), (6, .int x6)]) hx hb dX9_bribes_149 rfl hl (by decide) rfl (fun ls hl => ?_)
              cases hf
              exact J15 _ _ _ hP hD hS (lv_sub hl [2, 3, 1, 0, 4, 5, 6] rfl)
  unfold f_X9_bribes at hf
  refine lv_iload_n hx hb dX9_bribes_0 rfl (lv_at hl 1 rfl) ?_
  refine lv_i2l hx hb dX9_bribes_1 rfl ?_
  refine lv_lconst (v := 0) hx hb dX9_bribes_2 (by decide) ?_
  refine lv_lconst (v := 1) hx hb dX9_bribes_3 (by decide) ?_
  obtain ⟨r1, hq2, hf⟩ := zb1_some hf
  refine zcallSi (rest := []) ⟨hx, hb, hml, hown, hts⟩ (c_X9_in l D cI cB (a1.toInt64) 0 1 r1 hq2) (z_cwS 3 hts (z_gS hG wd_727 wd_728 wd_15 wd_729) rfl rfl rfl q_X9_in ⟨Nat.le_of_ble_eq_true rfl, Nat.le_of_ble_eq_true rfl⟩) hK hP hD hS hA rfl hl.1 (Nat.le_of_ble_eq_true rfl) dX9_bribes_4 ⟨Nat.zero_le _, Nat.zero_le _⟩ rfl (fun H locs hP hD hS => ?_)
  refine lv_if_ne (tgt := 12) hx hb dX9_bribes_7 (by decide) (fun c_3 => ?_) (fun c_3 => ?_)
  · replace hf := zif c_3 hf
    refine lv_iconst (v := (-1)) hx hb dX9_bribes_12 (by decide) ?_
    refine lv_istore_n (lv' := [(2, .int (-1)), (0, .ref (hM 0)), (1, .int a1)]) hx hb dX9_bribes_13 rfl hl (by decide) rfl (fun ls hl => ?_)
    refine lv_bipush (v := (-4)) hx hb dX9_bribes_14 (by decide) ?_
    refine lv_istore_n (lv' := [(3, .int (-4)), (2, .int (-1)), (0, .ref (hM 0)), (1, .int a1)]) hx hb dX9_bribes_16 rfl hl (by decide) rfl (fun ls hl => ?_)
    refine lv_iconst (v := 0) hx hb dX9_bribes_17 (by decide) ?_
    refine lv_istore (lv' := [(4, .int 0), (3, .int (-4)), (2, .int (-1)), (0, .ref (hM 0)), (1, .int a1)]) hx hb dX9_bribes_18 hl (by decide) rfl (fun ls hl => ?_)
    obtain ⟨x19, x20, x21, M_22, hq23, hf⟩ := zb4_some hf
    refine L20 _ _ _ _ _ _ _ _ _ _ hq23 ?_ _ _ _ hP hD hS (lv_sub hl [3, 4, 2, 1, 0] rfl)
    intro H locs ls hP hD hS hl
    refine lv_iload_n hx hb dX9_bribes_156 rfl (lv_at hl 3 rfl) ?_
    refine lv_if_lt (tgt := 165) hx hb dX9_bribes_157 (by decide) (fun c_24 => ?_) (fun c_24 => ?_)
    · replace hf := zit c_24 hf
      refine lv_iload_n hx hb dX9_bribes_165 rfl (lv_at hl 3 rfl) ?_
      refine lv_goto (tgt := 170) hx hb dX9_bribes_166 (by decide) ?_
      cases hf
      exact zretI hx hb hr hlocks hK hP hD hS dX9_bribes_170
    · replace hf := zif c_24 hf
      refine lv_iload_n hx hb dX9_bribes_160 rfl (lv_at hl 1 rfl) ?_
      refine lv_iconst (v := 1) hx hb dX9_bribes_161 (by decide) ?_
      refine lv_icmp_ne (tgt := 169) hx hb dX9_bribes_162 (by decide) (fun c_25 => ?_) (fun c_25 => ?_)
      · replace hf := zif c_25 hf
        refine lv_iload_n hx hb dX9_bribes_169 rfl (lv_at hl 2 rfl) ?_
        cases hf
        exact zretI hx hb hr hlocks hK hP hD hS dX9_bribes_170
      · replace hf := zit c_25 hf
        refine lv_iload_n hx hb dX9_bribes_165 rfl (lv_at hl 3 rfl) ?_
        refine lv_goto (tgt := 170) hx hb dX9_bribes_166 (by decide) ?_
        cases hf
        exact zretI hx hb hr hlocks hK hP hD hS dX9_bribes_170
  · replace hf := zit c_3 hf
    refine lv_iconst (v := (-1)) hx hb dX9_bribes_10 (by decide) ?_
    cases hf
    exact zretI hx hb hr hlocks hK hP hD hS dX9_bribes_11
def L_X9_closed_28 (l1 : Int32) : Nat → Int32 → zMm → Option (Int32 × zMm)
  | 0, _, _ => none
  | n + 1, l2, M => if (M 6 0) ≤ l2 then some (l2, M) else zl 7 (M 19) l2 (fun v7 => zw 7 M 21 l2 v7 (fun M_8 => zv (l2 + 1) (fun (x9 : Int32) => L_X9_closed_28 l1 n x9 M_8)))
def L_X9_closed_66 (l1 : Int32) (l2 : Int32) : Nat → Int32 → zMm → Option (Int32 × zMm)
  | 0, _, _ => none
  | n + 1, l3, M => if (M 8 0) ≤ l3 then some (l3, M) else zl 40 (M 9) ((2 : Int32) * l3) (fun v15 => zl 40 (M 9) (((2 : Int32) * l3) + 1) (fun v16 => zl 7 (M 21) v15 (fun v17 => zl 7 (M 21) v16 (fun v18 => zb1 (if v18 ≤ v17 then zl 7 (M 21) v16 (fun v23 => some v23) else zl 7 (M 21) v15 (fun v24 => some v24)) (fun (y20 : Int32) => zw 7 M 21 v15 y20 (fun M_25 => zw 7 M_25 21 v16 y20 (fun M_26 => zv (l3 + 1) (fun (x27 : Int32) => L_X9_closed_66 l1 l2 n x27 M_26))))))))
def L_X9_closed_58 (l1 : Int32) : Nat → Int32 → zMm → Option (Int32 × zMm)
  | 0, _, _ => none
  | n + 1, l2, M => if (7 : Int32) ≤ l2 then some (l2, M) else zb2 (L_X9_closed_66 l1 l2 100000 0 M) (fun (x14 : Int32) (M_15 : zMm) => zv (l2 + 1) (fun (x17 : Int32) => L_X9_closed_58 l1 n x17 M_15))
def L_X9_closed_168 (M : zMm) (l1 : Int32) : Nat → Int32 → Int32 → Option (Int32 × Int32)
  | 0, _, _ => none
  | n + 1, l2, l3 => if (M 6 0) ≤ l3 then some (l2, l3) else zl 7 (M 19) l3 (fun v22 => zl 7 (M 21) l3 (fun v23 => zv (l2 + (v22 - v23)) (fun (x24 : Int32) => zv (l3 + 1) (fun (x25 : Int32) => L_X9_closed_168 M l1 n x24 x25))))
def f_X9_closed (M : zMm) (a1 : Int32) : Option (Int32 × zMm) := zb1 (f_X9_in (a1.toInt64) (-1) (((M 6 0) - 1).toInt64)) (fun (r1 : Int32) => if r1 = 0 then some (((-1) : Int32), M) else zb1 (f_X9_lengths M) (fun (M_4 : zMm) => zb2 (L_X9_closed_28 a1 100000 0 M_4) (fun (x10 : Int32) (M_11 : zMm) => zb2 (L_X9_closed_58 a1 100000 0 M_11) (fun (x18 : Int32) (M_19 : zMm) => zb2 (L_X9_closed_168 M_19 a1 100000 0 0) (fun (x26 : Int32) (x27 : Int32) => if (0 : Int32) ≤ a1 then zl 7 (M_19 19) a1 (fun v30 => zl 7 (M_19 21) a1 (fun v31 => some (v30 - v31, M_19))) else some (x26, M_19))))))
abbrev ww_X9_closed : List Cond := Cond.code yX9_closed cX9_closed 7 (some .int) :: wG
theorem q_X9_closed : yX9_closed.cls = RX9 ∧ yX9_closed.cls ≠ "java/lang/invoke/MethodHandle" ∧ yX9_closed.cls ≠ "java/lang/invoke/VarHandle" ∧ (parseMethodDescriptor yX9_closed.desc).map (fun d => d.parameters.length) = some 1 := by decide +kernel
set_option maxHeartbeats 4000000 in
set_option maxRecDepth 100000 in
theorem c_X9_closed (l : Launch) (D : va_G) (cI cB : ClassId) (hM : Nat → Nat) (M : zMm) (a1 : Int32) (r0 : Int32) (M0 : zMm) (hf : f_X9_closed M a1 = some (r0, M0)) : zMi l yX9_closed ww_X9_closed ({ frames := 3, cells := 0, slots := 0, locals := 67 } : Room) D cI cB [.ref (hM 0), .int a1] (w9 cI cB hM M) r0 (w9 cI cB hM M0) := by
  refine zofI (cc := cX9_closed) (maxL := 7) (ret := (some .int)) (by decide +kernel) rfl (Nat.le_of_ble_eq_true rfl) ?_
  intro p e s m below meth c A ls hx hb hml hr hown hts hlocks hK hP hD hS hA hl
  have hl : lv_has ls 7 [(0, .ref (hM 0)), (1, .int a1)] := hl
  have hown : s.vm.findClass RX9 = some m.cls := hown
  have hG : ∀ w ∈ wG, w ∈ ww_X9_closed := fun w h => List.mem_cons_of_mem _ h
  have hi9 : ∀ w ∈ wsX90, w ∈ ww_X9_closed := fun w h => List.mem_cons_of_mem _ (z_inX9 w h)
  have L168 : ∀ (M : zMm) (l1 : Int32) (n : Nat) (l2 : Int32) (l3 : Int32) (o2 : Int32) (o3 : Int32), L_X9_closed_168 M l1 n l2 l3 = some (o2, o3) → zAt p l e ({ frames := 3, cells := 0, slots := 0, locals := 67 } : Room) s m [.ref (hM 0), .int a1].toArray below meth c (MQ below (zQi D cI cB r0 (w9 cI cB hM M0) A) [.ref (hM 0), .int a1].toArray s 0 0 A) A D 7 (w9 cI cB hM M) [(0, .ref (hM 0)), (1, .int l1), (2, .int o2), (3, .int o3)] 200 [] → zAt p l e ({ frames := 3, cells := 0, slots := 0, locals := 67 } : Room) s m [.ref (hM 0), .int a1].toArray below meth c (MQ below (zQi D cI cB r0 (w9 cI cB hM M0) A) [.ref (hM 0), .int a1].toArray s 0 0 A) A D 7 (w9 cI cB hM M) [(0, .ref (hM 0)), (1, .int l1), (2, .int l2), (3, .int l3)] 168 [] := by
    intro M l1 n
    induction n with
    | zero => intro l2 l3 o2 o3 hf; simp [L_X9_closed_168] at hf
    | succ n ih =>
      intro l2 l3 o2 o3 hf hk H locs ls hP hD hS hl
      rw [L_X9_closed_168] at hf
      refine lv_iload_n hx hb dX9_closed_168 rfl (lv_at hl 3 rfl) ?_
      refine lv_aload_n hx hb dX9_closed_169 rfl (lv_at hl 0 rfl) ?_
      refine va_get (D := D) (ci := 9) (v := .ref (hM 5)) (C := RX9) (T := TX9) (N := 23) hx hb hts hi9 hown hK hP 0 rfl rfl 6 (Nat.le_of_ble_eq_true rfl) (hts _ (List.mem_cons_of_mem _ wd_658)) (fun _ h9 => h9) rfl dX9_closed_170 ?_
      refine lv_iconst (v := 0) hx hb dX9_closed_173 (by decide) ?_
      refine va_iald (n := 2) (f := M 6) (cA := cI) hx hb hK hP 5 0 rfl rfl (z_in (by decide)) dX9_closed_174 ?_
      refine z_tc (k := 0) (by decide) ?_
      refine lv_icmp_ge (tgt := 200) hx hb dX9_closed_175 (by decide) (fun c_21 => ?_) (fun c_21 => ?_)
      · replace hf := zit c_21 hf
        cases hf
        exact hk _ _ _ hP hD hS (lv_sub hl [0, 1, 2, 3] rfl)
      · replace hf := zif c_21 hf
        refine lv_iload_n hx hb dX9_closed_178 rfl (lv_at hl 2 rfl) ?_
        refine lv_aload_n hx hb dX9_closed_179 rfl (lv_at hl 0 rfl) ?_
        refine va_get (D := D) (ci := 9) (v := .ref (hM 14)) (C := RX9) (T := TX9) (N := 23) hx hb hts hi9 hown hK hP 0 rfl rfl 19 (Nat.le_of_ble_eq_true rfl) (hts _ (List.mem_cons_of_mem _ wd_671)) (fun _ h9 => h9) rfl dX9_closed_180 ?_
        refine lv_iload_n hx hb dX9_closed_183 rfl (lv_at hl 3 rfl) ?_
        obtain ⟨i_v22, v22, e_v22, hf⟩ := zl_some hf
        refine va_iald (n := 7) (f := M 19) (cA := cI) hx hb hK hP 14 0 rfl rfl i_v22 dX9_closed_184 ?_
        refine zt e_v22 ?_
        refine lv_aload_n hx hb dX9_closed_185 rfl (lv_at hl 0 rfl) ?_
        refine va_get (D := D) (ci := 9) (v := .ref (hM 16)) (C := RX9) (T := TX9) (N := 23) hx hb hts hi9 hown hK hP 0 rfl rfl 21 (Nat.le_of_ble_eq_true rfl) (hts _ (List.mem_cons_of_mem _ wd_673)) (fun _ h9 => h9) rfl dX9_closed_186 ?_
        refine lv_iload_n hx hb dX9_closed_189 rfl (lv_at hl 3 rfl) ?_
        obtain ⟨i_v23, v23, e_v23, hf⟩ := zl_some hf
        refine va_iald (n := 7) (f := M 21) (cA := cI) hx hb hK hP 16 0 rfl rfl i_v23 dX9_closed_190 ?_
        refine zt e_v23 ?_
        refine lv_isub hx hb dX9_closed_191 ?_
        refine lv_iadd hx hb dX9_closed_192 ?_
        obtain ⟨x24, e_x24, hf⟩ := zv_some hf
        refine zt e_x24 ?_
        refine lv_istore_n (lv' := [(2, .int x24), (0, .ref (hM 0)), (1, .int l1), (3, .int l3)]) hx hb dX9_closed_193 rfl hl (by decide) rfl (fun ls hl => ?_)
        obtain ⟨x25, e_x25, hf⟩ := zv_some hf
        refine lv_iinc (v := x25) (lv' := [(3, .int x25), (2, .int x24), (0, .ref (hM 0)), (1, .int l1)]) hx hb dX9_closed_194 hl (k := 3) rfl (by rw [e_x25]; rfl) (by decide) rfl (fun ls hl => ?_)
        refine lv_goto (tgt := 168) hx hb dX9_closed_197 (by decide) ?_
        exact ih _ _ _ _ hf hk _ _ _ hP hD hS (lv_sub hl [2, 3, 1, 0] rfl)
  have L66 : ∀ (l1 : Int32) (l2 : Int32) (n : Nat) (l3 : Int32) (M : zMm) (o3 : Int32) (oM : zMm), L_X9_closed_66 l1 l2 n l3 M = some (o3, oM) → zAt p l e ({ frames := 3, cells := 0, slots := 0, locals := 67 } : Room) s m [.ref (hM 0), .int a1].toArray below meth c (MQ below (zQi D cI cB r0 (w9 cI cB hM M0) A) [.ref (hM 0), .int a1].toArray s 0 0 A) A D 7 (w9 cI cB hM oM) [(0, .ref (hM 0)), (1, .int l1), (2, .int l2), (3, .int o3)] 158 [] → zAt p l e ({ frames := 3, cells := 0, slots := 0, locals := 67 } : Room) s m [.ref (hM 0), .int a1].toArray below meth c (MQ below (zQi D cI cB r0 (w9 cI cB hM M0) A) [.ref (hM 0), .int a1].toArray s 0 0 A) A D 7 (w9 cI cB hM M) [(0, .ref (hM 0)), (1, .int l1), (2, .int l2), (3, .int l3)] 66 [] := by
    intro l1 l2 n
    induction n with
    | zero => intro l3 M o3 oM hf; simp [L_X9_closed_66] at hf
    | succ n ih =>
      intro l3 M o3 oM hf hk H locs ls hP hD hS hl
      rw [L_X9_closed_66] at hf
      refine lv_iload_n hx hb dX9_closed_66 rfl (lv_at hl 3 rfl) ?_
      refine lv_aload_n hx hb dX9_closed_67 rfl (lv_at hl 0 rfl) ?_
      refine va_get (D := D) (ci := 9) (v := .ref (hM 7)) (C := RX9) (T := TX9) (N := 23) hx hb hts hi9 hown hK hP 0 rfl rfl 8 (Nat.le_of_ble_eq_true rfl) (hts _ (List.mem_cons_of_mem _ wd_660)) (fun _ h9 => h9) rfl dX9_closed_68 ?_
      refine lv_iconst (v := 0) hx hb dX9_closed_71 (by decide) ?_
      refine va_iald (n := 2) (f := M 8) (cA := cI) hx hb hK hP 7 0 rfl rfl (z_in (by decide)) dX9_closed_72 ?_
      refine z_tc (k := 0) (by decide) ?_
      refine lv_icmp_ge (tgt := 158) hx hb dX9_closed_73 (by decide) (fun c_14 => ?_) (fun c_14 => ?_)
      · replace hf := zit c_14 hf
        cases hf
        exact hk _ _ _ hP hD hS (lv_sub hl [0, 1, 2, 3] rfl)
      · replace hf := zif c_14 hf
        refine lv_aload_n hx hb dX9_closed_76 rfl (lv_at hl 0 rfl) ?_
        refine va_get (D := D) (ci := 9) (v := .ref (hM 8)) (C := RX9) (T := TX9) (N := 23) hx hb hts hi9 hown hK hP 0 rfl rfl 9 (Nat.le_of_ble_eq_true rfl) (hts _ (List.mem_cons_of_mem _ wd_661)) (fun _ h9 => h9) rfl dX9_closed_77 ?_
        refine lv_iconst (v := 2) hx hb dX9_closed_80 (by decide) ?_
        refine lv_iload_n hx hb dX9_closed_81 rfl (lv_at hl 3 rfl) ?_
        refine lv_imul hx hb dX9_closed_82 ?_
        obtain ⟨i_v15, v15, e_v15, hf⟩ := zl_some hf
        refine va_iald (n := 40) (f := M 9) (cA := cI) hx hb hK hP 8 0 rfl rfl i_v15 dX9_closed_83 ?_
        refine zt e_v15 ?_
        refine lv_istore (lv' := [(4, .int v15), (0, .ref (hM 0)), (1, .int l1), (2, .int l2), (3, .int l3)]) hx hb dX9_closed_84 hl (by decide) rfl (fun ls hl => ?_)
        refine lv_aload_n hx hb dX9_closed_86 rfl (lv_at hl 1 rfl) ?_
        refine va_get (D := D) (ci := 9) (v := .ref (hM 8)) (C := RX9) (T := TX9) (N := 23) hx hb hts hi9 hown hK hP 0 rfl rfl 9 (Nat.le_of_ble_eq_true rfl) (hts _ (List.mem_cons_of_mem _ wd_661)) (fun _ h9 => h9) rfl dX9_closed_87 ?_
        refine lv_iconst (v := 2) hx hb dX9_closed_90 (by decide) ?_
        refine lv_iload_n hx hb dX9_closed_91 rfl (lv_at hl 4 rfl) ?_
        refine lv_imul hx hb dX9_closed_92 ?_
        refine lv_iconst (v := 1) hx hb dX9_closed_93 (by decide) ?_
        refine lv_iadd hx hb dX9_closed_94 ?_
        obtain ⟨i_v16, v16, e_v16, hf⟩ := zl_some hf
        refine va_iald (n := 40) (f := M 9) (cA := cI) hx hb hK hP 8 0 rfl rfl i_v16 dX9_closed_95 ?_
        refine zt e_v16 ?_
        refine lv_istore (lv' := [(5, .int v16), (4, .int v15), (0, .ref (hM 0)), (1, .int l1), (2, .int l2), (3, .int l3)]) hx hb dX9_closed_96 hl (by decide) rfl (fun ls hl => ?_)
        refine lv_aload_n hx hb dX9_closed_98 rfl (lv_at hl 2 rfl) ?_
        refine va_get (D := D) (ci := 9) (v := .ref (hM 16)) (C := RX9) (T := TX9) (N := 23) hx hb hts hi9 hown hK hP 0 rfl rfl 21 (Nat.le_of_ble_eq_true rfl) (hts _ (List.mem_cons_of_mem _ wd_673)) (fun _ h9 => h9) rfl dX9_closed_99 ?_
        refine lv_iload hx hb dX9_closed_102 (lv_at hl 1 rfl) ?_
        obtain ⟨i_v17, v17, e_v17, hf⟩ := zl_some hf
        refine va_iald (n := 7) (f := M 21) (cA := cI) hx hb hK hP 16 0 rfl rfl i_v17 dX9_closed_104 ?_
        refine zt e_v17 ?_
        refine lv_aload_n hx hb dX9_closed_105 rfl (lv_at hl 2 rfl) ?_
        refine va_get (D := D) (ci := 9) (v := .ref (hM 16)) (C := RX9) (T := TX9) (N := 23) hx hb hts hi9 hown hK hP 0 rfl rfl 21 (Nat.le_of_ble_eq_true rfl) (hts _ (List.mem_cons_of_mem _ wd_673)) (fun _ h9 => h9) rfl dX9_closed_106 ?_
        refine lv_iload hx hb dX9_closed_109 (lv_at hl 0 rfl) ?_
        obtain ⟨i_v18, v18, e_v18, hf⟩ := zl_some hf
        refine va_iald (n := 7) (f := M 21) (cA := cI) hx hb hK hP 16 0 rfl rfl i_v18 dX9_closed_111 ?_
        refine zt e_v18 ?_
        obtain ⟨y20, hq21, hf⟩ := zb1_some hf
        have J22 : zAt p l e ({ frames := 3, cells := 0, slots := 0, locals := 67 } : Room) s m [.ref (hM 0), .int a1].toArray below meth c (MQ below (zQi D cI cB r0 (w9 cI cB hM M0) A) [.ref (hM 0), .int a1].toArray s 0 0 A) A D 7 (w9 cI cB hM M) [(0, .ref (hM 0)), (1, .int l1), (2, .int l2), (3, .int l3), (4, .int v15), (5, .int v16)] 132 [.int y20] := by
          intro H locs ls hP hD hS hl
          refine lv_istore (lv' := [(6, .int y20), (0, .ref (hM 0)), (1, .int l1), (2, .int l2), (3, .int l3), (4, .int v15), (5, .int v16)]) hx hb dX9_closed_132 hl (by decide) rfl (fun ls hl => ?_)
          refine lv_aload_n hx hb dX9_closed_134 rfl (lv_at hl 1 rfl) ?_
          refine va_get (D := D) (ci := 9) (v := .ref (hM 16)) (C := RX9) (T := TX9) (N := 23) hx hb hts hi9 hown hK hP 0 rfl rfl 21 (Nat.le_of_ble_eq_true rfl) (hts _ (List.mem_cons_of_mem _ wd_673)) (fun _ h9 => h9) rfl dX9_closed_135 ?_
          refine lv_iload hx hb dX9_closed_138 (lv_at hl 5 rfl) ?_
          refine lv_iload hx hb dX9_closed_140 (lv_at hl 0 rfl) ?_
          obtain ⟨i_M_25, M_25, e_M_25, hf⟩ := zw_some hf
          refine va_iast (n := 7) (f := M 21) (cA := cI) hx hb hK hP hD hS 16 0 rfl rfl i_M_25 dX9_closed_142 (fun H locs hP hD hS => ?_)
          have hP : va_P D vwCl (w9 cI cB hM (zs M 21 (upd (M 21) v15.toNatClampNeg y20))) H := hP
          have hD : va_D A (w9 cI cB hM (zs M 21 (upd (M 21) v15.toNatClampNeg y20))) := hD
          rw [← e_M_25] at hP hD
          refine lv_aload_n hx hb dX9_closed_143 rfl (lv_at hl 1 rfl) ?_
          refine va_get (D := D) (ci := 9) (v := .ref (hM 16)) (C := RX9) (T := TX9) (N := 23) hx hb hts hi9 hown hK hP 0 rfl rfl 21 (Nat.le_of_ble_eq_true rfl) (hts _ (List.mem_cons_of_mem _ wd_673)) (fun _ h9 => h9) rfl dX9_closed_144 ?_
          refine lv_iload hx hb dX9_closed_147 (lv_at hl 6 rfl) ?_
          refine lv_iload hx hb dX9_closed_149 (lv_at hl 0 rfl) ?_
          obtain ⟨i_M_26, M_26, e_M_26, hf⟩ := zw_some hf
          refine va_iast (n := 7) (f := M_25 21) (cA := cI) hx hb hK hP hD hS 16 0 rfl rfl i_M_26 dX9_closed_151 (fun H locs hP hD hS => ?_)
          have hP : va_P D vwCl (w9 cI cB hM (zs M_25 21 (upd (M_25 21) v16.toNatClampNeg y20))) H := hP
          have hD : va_D A (w9 cI cB hM (zs M_25 21 (upd (M_25 21) v16.toNatClampNeg y20))) := hD
          rw [← e_M_26] at hP hD
          obtain ⟨x27, e_x27, hf⟩ := zv_some hf
          refine lv_iinc (v := x27) (lv' := [(3, .int x27), (6, .int y20), (0, .ref (hM 0)), (1, .int l1), (2, .int l2), (4, .int v15), (5, .int v16)]) hx hb dX9_closed_152 hl (k := 4) rfl (by rw [e_x27]; rfl) (by decide) rfl (fun ls hl => ?_)
          refine lv_goto (tgt := 66) hx hb dX9_closed_155 (by decide) ?_
          exact ih _ _ _ _ hf hk _ _ _ hP hD hS (lv_sub hl [2, 3, 4, 0] rfl)
        replace hf := hq21
        refine lv_icmp_ge (tgt := 125) hx hb dX9_closed_112 (by decide) (fun c_19 => ?_) (fun c_19 => ?_)
        · replace hf := zit c_19 hf
          refine lv_aload_n hx hb dX9_closed_125 rfl (lv_at hl 2 rfl) ?_
          refine va_get (D := D) (ci := 9) (v := .ref (hM 16)) (C := RX9) (T := TX9) (N := 23) hx hb hts hi9 hown hK hP 0 rfl rfl 21 (Nat.le_of_ble_eq_true rfl) (hts _ (List.mem_cons_of_mem _ wd_673)) (fun _ h9 => h9) rfl dX9_closed_126 ?_
          refine lv_iload hx hb dX9_closed_129 (lv_at hl 0 rfl) ?_
          obtain ⟨i_v23, v23, e_v23, hf⟩ := zl_some hf
          refine va_iald (n := 7) (f := M 21) (cA := cI) hx hb hK hP 16 0 rfl rfl i_v23 dX9_closed_131 ?_
          refine zt e_v23 ?_
          cases hf
          exact J22 _ _ _ hP hD hS (lv_sub hl [2, 3, 4, 5, 1, 0] rfl)
        · replace hf := zif c_19 hf
          refine lv_aload_n hx hb dX9_closed_115 rfl (lv_at hl 2 rfl) ?_
          refine va_get (D := D) (ci := 9) (v := .ref (hM 16)) (C := RX9) (T := TX9) (N := 23) hx hb hts hi9 hown hK hP 0 rfl rfl 21 (Nat.le_of_ble_eq_true rfl) (hts _ (List.mem_cons_of_mem _ wd_673)) (fun _ h9 => h9) rfl dX9_closed_116 ?_
          refine lv_iload hx hb dX9_closed_119 (lv_at hl 1 rfl) ?_
          obtain ⟨i_v24, v24, e_v24, hf⟩ := zl_some hf
          refine va_iald (n := 7) (f := M 21) (cA := cI) hx hb hK hP 16 0 rfl rfl i_v24 dX9_closed_121 ?_
          refine zt e_v24 ?_
          refine lv_goto (tgt := 132) hx hb dX9_closed_122 (by decide) ?_
          cases hf
          exact J22 _ _ _ hP hD hS (lv_sub hl [2, 3, 4, 5, 1, 0] rfl)
  have L58 : ∀ (l1 : Int32) (n : Nat) (l2 : Int32) (M : zMm) (o2 : Int32) (oM : zMm), L_X9_closed_58 l1 n l2 M = some (o2, oM) → zAt p l e ({ frames := 3, cells := 0, slots := 0, locals := 67 } : Room) s m [.ref (hM 0), .int a1].toArray below meth c (MQ below (zQi D cI cB r0 (w9 cI cB hM M0) A) [.ref (hM 0), .int a1].toArray s 0 0 A) A D 7 (w9 cI cB hM oM) [(0, .ref (hM 0)), (1, .int l1), (2, .int o2)] 164 [] → zAt p l e ({ frames := 3, cells := 0, slots := 0, locals := 67 } : Room) s m [.ref (hM 0), .int a1].toArray below meth c (MQ below (zQi D cI cB r0 (w9 cI cB hM M0) A) [.ref (hM 0), .int a1].toArray s 0 0 A) A D 7 (w9 cI cB hM M) [(0, .ref (hM 0)), (1, .int l1), (2, .int l2)] 58 [] := by
    intro l1 n
    induction n with
    | zero => intro l2 M o2 oM hf; simp [L_X9_closed_58] at hf
    | succ n ih =>
      intro l2 M o2 oM hf hk H locs ls hP hD hS hl
      rw [L_X9_closed_58] at hf
      refine lv_iload_n hx hb dX9_closed_58 rfl (lv_at hl 2 rfl) ?_
      refine lv_bipush (v := 7) hx hb dX9_closed_59 (by decide) ?_
      refine lv_icmp_ge (tgt := 164) hx hb dX9_closed_61 (by decide) (fun c_13 => ?_) (fun c_13 => ?_)
      · replace hf := zit c_13 hf
        cases hf
        exact hk _ _ _ hP hD hS (lv_sub hl [0, 1, 2] rfl)
      · replace hf := zif c_13 hf
        refine lv_iconst (v := 0) hx hb dX9_closed_64 (by decide) ?_
        refine lv_istore_n (lv' := [(3, .int 0), (0, .ref (hM 0)), (1, .int l1), (2, .int l2)]) hx hb dX9_closed_65 rfl hl (by decide) rfl (fun ls hl => ?_)
        obtain ⟨x14, M_15, hq16, hf⟩ := zb2_some hf
        refine L66 _ _ _ _ _ _ _ hq16 ?_ _ _ _ hP hD hS (lv_sub hl [1, 2, 3, 0] rfl)
        intro H locs ls hP hD hS hl
        obtain ⟨x17, e_x17, hf⟩ := zv_some hf
        refine lv_iinc (v := x17) (lv' := [(2, .int x17), (0, .ref (hM 0)), (1, .int l1), (3, .int x14)]) hx hb dX9_closed_158 hl (k := 2) rfl (by rw [e_x17]; rfl) (by decide) rfl (fun ls hl => ?_)
        refine lv_goto (tgt := 58) hx hb dX9_closed_161 (by decide) ?_
        exact ih _ _ _ _ hf hk _ _ _ hP hD hS (lv_sub hl [1, 2, 0] rfl)
  have L28 : ∀ (l1 : Int32) (n : Nat) (l2 : Int32) (M : zMm) (o2 : Int32) (oM : zMm), L_X9_closed_28 l1 n l2 M = some (o2, oM) → zAt p l e ({ frames := 3, cells := 0, slots := 0, locals := 67 } : Room) s m [.ref (hM 0), .int a1].toArray below meth c (MQ below (zQi D cI cB r0 (w9 cI cB hM M0) A) [.ref (hM 0), .int a1].toArray s 0 0 A) A D 7 (w9 cI cB hM oM) [(0, .ref (hM 0)), (1, .int l1), (2, .int o2)] 56 [] → zAt p l e ({ frames := 3, cells := 0, slots := 0, locals := 67 } : Room) s m [.ref (hM 0), .int a1].toArray below meth c (MQ below (zQi D cI cB r0 (w9 cI cB hM M0) A) [.ref (hM 0), .int a1].toArray s 0 0 A) A D 7 (w9 cI cB hM M) [(0, .ref (hM 0)), (1, .int l1), (2, .int l2)] 28 [] := by
    intro l1 n
    induction n with
    | zero => intro l2 M o2 oM hf; simp [L_X9_closed_28] at hf
    | succ n ih =>
      intro l2 M o2 oM hf hk H locs ls hP hD hS hl
      rw [L_X9_closed_28] at hf
      refine lv_iload_n hx hb dX9_closed_28 rfl (lv_at hl 2 rfl) ?_
      refine lv_aload_n hx hb dX9_closed_29 rfl (lv_at hl 0 rfl) ?_
      refine va_get (D := D) (ci := 9) (v := .ref (hM 5)) (C := RX9) (T := TX9) (N := 23) hx hb hts hi9 hown hK hP 0 rfl rfl 6 (Nat.le_of_ble_eq_true rfl) (hts _ (List.mem_cons_of_mem _ wd_658)) (fun _ h9 => h9) rfl dX9_closed_30 ?_
      refine lv_iconst (v := 0) hx hb dX9_closed_33 (by decide) ?_
      refine va_iald (n := 2) (f := M 6) (cA := cI) hx hb hK hP 5 0 rfl rfl (z_in (by decide)) dX9_closed_34 ?_
      refine z_tc (k := 0) (by decide) ?_
      refine lv_icmp_ge (tgt := 56) hx hb dX9_closed_35 (by decide) (fun c_6 => ?_) (fun c_6 => ?_)
      · replace hf := zit c_6 hf
        cases hf
        exact hk _ _ _ hP hD hS (lv_sub hl [0, 1, 2] rfl)
      · replace hf := zif c_6 hf
        refine lv_aload_n hx hb dX9_closed_38 rfl (lv_at hl 0 rfl) ?_
        refine va_get (D := D) (ci := 9) (v := .ref (hM 16)) (C := RX9) (T := TX9) (N := 23) hx hb hts hi9 hown hK hP 0 rfl rfl 21 (Nat.le_of_ble_eq_true rfl) (hts _ (List.mem_cons_of_mem _ wd_673)) (fun _ h9 => h9) rfl dX9_closed_39 ?_
        refine lv_iload_n hx hb dX9_closed_42 rfl (lv_at hl 2 rfl) ?_
        refine lv_aload_n hx hb dX9_closed_43 rfl (lv_at hl 0 rfl) ?_
        refine va_get (D := D) (ci := 9) (v := .ref (hM 14)) (C := RX9) (T := TX9) (N := 23) hx hb hts hi9 hown hK hP 0 rfl rfl 19 (Nat.le_of_ble_eq_true rfl) (hts _ (List.mem_cons_of_mem _ wd_671)) (fun _ h9 => h9) rfl dX9_closed_44 ?_
        refine lv_iload_n hx hb dX9_closed_47 rfl (lv_at hl 2 rfl) ?_
        obtain ⟨i_v7, v7, e_v7, hf⟩ := zl_some hf
        refine va_iald (n := 7) (f := M 19) (cA := cI) hx hb hK hP 14 0 rfl rfl i_v7 dX9_closed_48 ?_
        refine zt e_v7 ?_
        obtain ⟨i_M_8, M_8, e_M_8, hf⟩ := zw_some hf
        refine va_iast (n := 7) (f := M 21) (cA := cI) hx hb hK hP hD hS 16 0 rfl rfl i_M_8 dX9_closed_49 (fun H locs hP hD hS => ?_)
        have hP : va_P D vwCl (w9 cI cB hM (zs M 21 (upd (M 21) l2.toNatClampNeg v7))) H := hP
        have hD : va_D A (w9 cI cB hM (zs M 21 (upd (M 21) l2.toNatClampNeg v7))) := hD
        rw [← e_M_8] at hP hD
        obtain ⟨x9, e_x9, hf⟩ := zv_some hf
        refine lv_iinc (v := x9) (lv' := [(2, .int x9), (0, .ref (hM 0)), (1, .int l1)]) hx hb dX9_closed_50 hl (k := 2) rfl (by rw [e_x9]; rfl) (by decide) rfl (fun ls hl => ?_)
        refine lv_goto (tgt := 28) hx hb dX9_closed_53 (by decide) ?_
        exact ih _ _ _ _ hf hk _ _ _ hP hD hS (lv_sub hl [1, 2, 0] rfl)
  unfold f_X9_closed at hf
  refine lv_iload_n hx hb dX9_closed_0 rfl (lv_at hl 1 rfl) ?_
  refine lv_i2l hx hb dX9_closed_1 rfl ?_
  refine lv_ldc2 (v := (-1)) hx hb hown (hts _ (List.mem_cons_of_mem _ wd_797)) dX9_closed_2 ?_
  refine lv_aload_n hx hb dX9_closed_5 rfl (lv_at hl 0 rfl) ?_
  refine va_get (D := D) (ci := 9) (v := .ref (hM 5)) (C := RX9) (T := TX9) (N := 23) hx hb hts hi9 hown hK hP 0 rfl rfl 6 (Nat.le_of_ble_eq_true rfl) (hts _ (List.mem_cons_of_mem _ wd_658)) (fun _ h9 => h9) rfl dX9_closed_6 ?_
  refine lv_iconst (v := 0) hx hb dX9_closed_9 (by decide) ?_
  refine va_iald (n := 2) (f := M 6) (cA := cI) hx hb hK hP 5 0 rfl rfl (z_in (by decide)) dX9_closed_10 ?_
  refine z_tc (k := 0) (by decide) ?_
  refine lv_iconst (v := 1) hx hb dX9_closed_11 (by decide) ?_
  refine lv_isub hx hb dX9_closed_12 ?_
  refine lv_i2l hx hb dX9_closed_13 rfl ?_
  obtain ⟨r1, hq2, hf⟩ := zb1_some hf
  refine zcallSi (rest := []) ⟨hx, hb, hml, hown, hts⟩ (c_X9_in l D cI cB (a1.toInt64) (-1) (((M 6 0) - 1).toInt64) r1 hq2) (z_cwS 3 hts (z_gS hG wd_727 wd_728 wd_15 wd_729) rfl rfl rfl q_X9_in ⟨Nat.le_of_ble_eq_true rfl, Nat.le_of_ble_eq_true rfl⟩) hK hP hD hS hA rfl hl.1 (Nat.le_of_ble_eq_true rfl) dX9_closed_14 ⟨Nat.zero_le _, Nat.zero_le _⟩ rfl (fun H locs hP hD hS => ?_)
  refine lv_if_ne (tgt := 22) hx hb dX9_closed_17 (by decide) (fun c_3 => ?_) (fun c_3 => ?_)
  · replace hf := zif c_3 hf
    refine lv_aload_n hx hb dX9_closed_22 rfl (lv_at hl 0 rfl) ?_
    obtain ⟨M_4, hq5, hf⟩ := zb1_some hf
    refine zcallVv (ws2 := (w9 cI cB hM M_4)) (rest := []) ⟨hx, hb, hml, hown, hts⟩ (c_X9_lengths l D cI cB hM M M_4 hq5) (cwV 0 hts (z_gV hG wd_798 wd_800 wd_s30 wd_15 wd_801) rfl rfl rfl q_X9_lengths ⟨Nat.le_of_ble_eq_true rfl, Nat.le_of_ble_eq_true rfl⟩) hK hP hD hS hA 9 rfl rfl rfl [0, 1, 2, 3, 4, 5, 6, 7, 8, 9, 10, 11, 12, 13, 14, 15, 16, 17] [] rfl rfl rfl rfl rfl rfl rfl hl.1 (Nat.le_of_ble_eq_true rfl) dX9_closed_23 ⟨Nat.zero_le _, Nat.zero_le _⟩ rfl (fun H locs hP hD hS => ?_)
    refine lv_iconst (v := 0) hx hb dX9_closed_26 (by decide) ?_
    refine lv_istore_n (lv' := [(2, .int 0), (0, .ref (hM 0)), (1, .int a1)]) hx hb dX9_closed_27 rfl hl (by decide) rfl (fun ls hl => ?_)
    obtain ⟨x10, M_11, hq12, hf⟩ := zb2_some hf
    refine L28 _ _ _ _ _ _ hq12 ?_ _ _ _ hP hD hS (lv_sub hl [1, 2, 0] rfl)
    intro H locs ls hP hD hS hl
    refine lv_iconst (v := 0) hx hb dX9_closed_56 (by decide) ?_
    refine lv_istore_n (lv' := [(2, .int 0), (0, .ref (hM 0)), (1, .int a1)]) hx hb dX9_closed_57 rfl hl (by decide) rfl (fun ls hl => ?_)
    obtain ⟨x18, M_19, hq20, hf⟩ := zb2_some hf
    refine L58 _ _ _ _ _ _ hq20 ?_ _ _ _ hP hD hS (lv_sub hl [1, 2, 0] rfl)
    intro H locs ls hP hD hS hl
    refine lv_iconst (v := 0) hx hb dX9_closed_164 (by decide) ?_
    refine lv_istore_n (lv' := [(2, .int 0), (0, .ref (hM 0)), (1, .int a1)]) hx hb dX9_closed_165 rfl hl (by decide) rfl (fun ls hl => ?_)
    refine lv_iconst (v := 0) hx hb dX9_closed_166 (by decide) ?_
    refine lv_istore_n (lv' := [(3, .int 0), (2, .int 0), (0, .ref (hM 0)), (1, .int a1)]) hx hb dX9_closed_167 rfl hl (by decide) rfl (fun ls hl => ?_)
    obtain ⟨x26, x27, hq28, hf⟩ := zb2_some hf
    refine L168 _ _ _ _ _ _ _ hq28 ?_ _ _ _ hP hD hS (lv_sub hl [2, 3, 1, 0] rfl)
    intro H locs ls hP hD hS hl
    refine lv_iload_n hx hb dX9_closed_200 rfl (lv_at hl 1 rfl) ?_
    refine lv_if_ge (tgt := 208) hx hb dX9_closed_201 (by decide) (fun c_29 => ?_) (fun c_29 => ?_)
    · replace hf := zit c_29 hf
      refine lv_aload_n hx hb dX9_closed_208 rfl (lv_at hl 0 rfl) ?_
      refine va_get (D := D) (ci := 9) (v := .ref (hM 14)) (C := RX9) (T := TX9) (N := 23) hx hb hts hi9 hown hK hP 0 rfl rfl 19 (Nat.le_of_ble_eq_true rfl) (hts _ (List.mem_cons_of_mem _ wd_671)) (fun _ h9 => h9) rfl dX9_closed_209 ?_
      refine lv_iload_n hx hb dX9_closed_212 rfl (lv_at hl 1 rfl) ?_
      obtain ⟨i_v30, v30, e_v30, hf⟩ := zl_some hf
      refine va_iald (n := 7) (f := M_19 19) (cA := cI) hx hb hK hP 14 0 rfl rfl i_v30 dX9_closed_213 ?_
      refine zt e_v30 ?_
      refine lv_aload_n hx hb dX9_closed_214 rfl (lv_at hl 0 rfl) ?_
      refine va_get (D := D) (ci := 9) (v := .ref (hM 16)) (C := RX9) (T := TX9) (N := 23) hx hb hts hi9 hown hK hP 0 rfl rfl 21 (Nat.le_of_ble_eq_true rfl) (hts _ (List.mem_cons_of_mem _ wd_673)) (fun _ h9 => h9) rfl dX9_closed_215 ?_
      refine lv_iload_n hx hb dX9_closed_218 rfl (lv_at hl 1 rfl) ?_
      obtain ⟨i_v31, v31, e_v31, hf⟩ := zl_some hf
      refine va_iald (n := 7) (f := M_19 21) (cA := cI) hx hb hK hP 16 0 rfl rfl i_v31 dX9_closed_219 ?_
      refine zt e_v31 ?_
      refine lv_isub hx hb dX9_closed_220 ?_
      cases hf
      exact zretI hx hb hr hlocks hK hP hD hS dX9_closed_221
    · replace hf := zif c_29 hf
      refine lv_iload_n hx hb dX9_closed_204 rfl (lv_at hl 2 rfl) ?_
      refine lv_goto (tgt := 221) hx hb dX9_closed_205 (by decide) ?_
      cases hf
      exact zretI hx hb hr hlocks hK hP hD hS dX9_closed_221
  · replace hf := zit c_3 hf
    refine lv_iconst (v := (-1)) hx hb dX9_closed_20 (by decide) ?_
    cases hf
    exact zretI hx hb hr hlocks hK hP hD hS dX9_closed_21
def f_X9_seen (M : zMm) (a1 : Int32) (a2 : Int32) (a3 : Int32) : Option (Int32 × zMm) := zb1 (f_X9_isTailor M a1) (fun (r1 : Int32) => if r1 = 0 then some (((-1) : Int32), M) else zb1 (f_X9_in (a2.toInt64) 10 199) (fun (r4 : Int32) => if r4 = 0 then some (((-1) : Int32), M) else zb1 (f_X9_in (a3.toInt64) 1 299) (fun (r7 : Int32) => if r7 = 0 then some (((-1) : Int32), M) else if (M 13 0) = 10 then some (((-3) : Int32), M) else zw 30 M 14 ((3 : Int32) * (M 13 0)) a1 (fun M_11 => zw 30 M_11 14 (((3 : Int32) * (M_11 13 0)) + 1) a2 (fun M_12 => zw 30 M_12 14 (((3 : Int32) * (M_12 13 0)) + 2) a3 (fun M_13 => zv (zs M_13 13 (fun _ => (M_13 13 0) + 1)) (fun (M_14 : zMm) => some (M_14 13 0, M_14))))))))
abbrev ww_X9_seen : List Cond := Cond.code yX9_seen cX9_seen 4 (some .int) :: wG
theorem q_X9_seen : yX9_seen.cls = RX9 ∧ yX9_seen.cls ≠ "java/lang/invoke/MethodHandle" ∧ yX9_seen.cls ≠ "java/lang/invoke/VarHandle" ∧ (parseMethodDescriptor yX9_seen.desc).map (fun d => d.parameters.length) = some 3 := by decide +kernel
set_option maxHeartbeats 4000000 in
set_option maxRecDepth 100000 in
theorem c_X9_seen (l : Launch) (D : va_G) (cI cB : ClassId) (hM : Nat → Nat) (M : zMm) (a1 : Int32) (a2 : Int32) (a3 : Int32) (r0 : Int32) (M0 : zMm) (hf : f_X9_seen M a1 a2 a3 = some (r0, M0)) : zMi l yX9_seen ww_X9_seen ({ frames := 2, cells := 0, slots := 0, locals := 46 } : Room) D cI cB [.ref (hM 0), .int a1, .int a2, .int a3] (w9 cI cB hM M) r0 (w9 cI cB hM M0) := by
  refine zofI (cc := cX9_seen) (maxL := 4) (ret := (some .int)) (by decide +kernel) rfl (Nat.le_of_ble_eq_true rfl) ?_
  intro p e s m below meth c A ls hx hb hml hr hown hts hlocks hK hP hD hS hA hl
  have hl : lv_has ls 4 [(0, .ref (hM 0)), (1, .int a1), (2, .int a2), (3, .int a3)] := hl
  have hown : s.vm.findClass RX9 = some m.cls := hown
  have hG : ∀ w ∈ wG, w ∈ ww_X9_seen := fun w h => List.mem_cons_of_mem _ h
  have hi9 : ∀ w ∈ wsX90, w ∈ ww_X9_seen := fun w h => List.mem_cons_of_mem _ (z_inX9 w h)
  unfold f_X9_seen at hf
  refine lv_aload_n hx hb dX9_seen_0 rfl (lv_at hl 0 rfl) ?_
  refine lv_iload_n hx hb dX9_seen_1 rfl (lv_at hl 1 rfl) ?_
  obtain ⟨r1, hq2, hf⟩ := zb1_some hf
  refine zcallVi (ws2 := (w9 cI cB hM M)) (rest := []) ⟨hx, hb, hml, hown, hts⟩ (c_X9_isTailor l D cI cB hM M a1 r1 hq2) (cwV 1 hts (z_gV hG wd_862 wd_864 wd_s37 wd_15 wd_865) rfl rfl rfl q_X9_isTailor ⟨Nat.le_of_ble_eq_true rfl, Nat.le_of_ble_eq_true rfl⟩) hK hP hD hS hA 9 rfl rfl rfl [0, 3] [1, 2, 4, 5, 6, 7, 8, 9, 10, 11, 12, 13, 14, 15, 16, 17] rfl rfl rfl rfl rfl rfl rfl hl.1 (Nat.le_of_ble_eq_true rfl) dX9_seen_2 ⟨Nat.zero_le _, Nat.zero_le _⟩ rfl (fun H locs hP hD hS => ?_)
  refine lv_if_eq (tgt := 34) hx hb dX9_seen_5 (by decide) (fun c_3 => ?_) (fun c_3 => ?_)
  · replace hf := zit c_3 hf
    refine lv_iconst (v := (-1)) hx hb dX9_seen_34 (by decide) ?_
    cases hf
    exact zretI hx hb hr hlocks hK hP hD hS dX9_seen_35
  · replace hf := zif c_3 hf
    refine lv_iload_n hx hb dX9_seen_8 rfl (lv_at hl 2 rfl) ?_
    refine lv_i2l hx hb dX9_seen_9 rfl ?_
    refine lv_ldc2 (v := 10) hx hb hown (hts _ (List.mem_cons_of_mem _ wd_758)) dX9_seen_10 ?_
    refine lv_ldc2 (v := 199) hx hb hown (hts _ (List.mem_cons_of_mem _ wd_759)) dX9_seen_13 ?_
    obtain ⟨r4, hq5, hf⟩ := zb1_some hf
    refine zcallSi (rest := []) ⟨hx, hb, hml, hown, hts⟩ (c_X9_in l D cI cB (a2.toInt64) 10 199 r4 hq5) (z_cwS 3 hts (z_gS hG wd_727 wd_728 wd_15 wd_729) rfl rfl rfl q_X9_in ⟨Nat.le_of_ble_eq_true rfl, Nat.le_of_ble_eq_true rfl⟩) hK hP hD hS hA rfl hl.1 (Nat.le_of_ble_eq_true rfl) dX9_seen_16 ⟨Nat.zero_le _, Nat.zero_le _⟩ rfl (fun H locs hP hD hS => ?_)
    refine lv_if_eq (tgt := 34) hx hb dX9_seen_19 (by decide) (fun c_6 => ?_) (fun c_6 => ?_)
    · replace hf := zit c_6 hf
      refine lv_iconst (v := (-1)) hx hb dX9_seen_34 (by decide) ?_
      cases hf
      exact zretI hx hb hr hlocks hK hP hD hS dX9_seen_35
    · replace hf := zif c_6 hf
      refine lv_iload_n hx hb dX9_seen_22 rfl (lv_at hl 3 rfl) ?_
      refine lv_i2l hx hb dX9_seen_23 rfl ?_
      refine lv_lconst (v := 1) hx hb dX9_seen_24 (by decide) ?_
      refine lv_ldc2 (v := 299) hx hb hown (hts _ (List.mem_cons_of_mem _ wd_837)) dX9_seen_25 ?_
      obtain ⟨r7, hq8, hf⟩ := zb1_some hf
      refine zcallSi (rest := []) ⟨hx, hb, hml, hown, hts⟩ (c_X9_in l D cI cB (a3.toInt64) 1 299 r7 hq8) (z_cwS 3 hts (z_gS hG wd_727 wd_728 wd_15 wd_729) rfl rfl rfl q_X9_in ⟨Nat.le_of_ble_eq_true rfl, Nat.le_of_ble_eq_true rfl⟩) hK hP hD hS hA rfl hl.1 (Nat.le_of_ble_eq_true rfl) dX9_seen_28 ⟨Nat.zero_le _, Nat.zero_le _⟩ rfl (fun H locs hP hD hS => ?_)
      refine lv_if_ne (tgt := 36) hx hb dX9_seen_31 (by decide) (fun c_9 => ?_) (fun c_9 => ?_)
      · replace hf := zif c_9 hf
        refine lv_aload_n hx hb dX9_seen_36 rfl (lv_at hl 0 rfl) ?_
        refine va_get (D := D) (ci := 9) (v := .int (M 13 0)) (C := RX9) (T := TX9) (N := 23) hx hb hts hi9 hown hK hP 0 rfl rfl 13 (Nat.le_of_ble_eq_true rfl) (hts _ (List.mem_cons_of_mem _ wd_665)) (fun _ h9 => h9) rfl dX9_seen_37 ?_
        refine lv_bipush (v := 10) hx hb dX9_seen_40 (by decide) ?_
        refine lv_icmp_ne (tgt := 48) hx hb dX9_seen_42 (by decide) (fun c_10 => ?_) (fun c_10 => ?_)
        · replace hf := zif c_10 hf
          refine lv_aload_n hx hb dX9_seen_48 rfl (lv_at hl 0 rfl) ?_
          refine va_get (D := D) (ci := 9) (v := .ref (hM 10)) (C := RX9) (T := TX9) (N := 23) hx hb hts hi9 hown hK hP 0 rfl rfl 14 (Nat.le_of_ble_eq_true rfl) (hts _ (List.mem_cons_of_mem _ wd_666)) (fun _ h9 => h9) rfl dX9_seen_49 ?_
          refine lv_iconst (v := 3) hx hb dX9_seen_52 (by decide) ?_
          refine lv_aload_n hx hb dX9_seen_53 rfl (lv_at hl 0 rfl) ?_
          refine va_get (D := D) (ci := 9) (v := .int (M 13 0)) (C := RX9) (T := TX9) (N := 23) hx hb hts hi9 hown hK hP 0 rfl rfl 13 (Nat.le_of_ble_eq_true rfl) (hts _ (List.mem_cons_of_mem _ wd_665)) (fun _ h9 => h9) rfl dX9_seen_54 ?_
          refine lv_imul hx hb dX9_seen_57 ?_
          refine lv_iload_n hx hb dX9_seen_58 rfl (lv_at hl 1 rfl) ?_
          obtain ⟨i_M_11, M_11, e_M_11, hf⟩ := zw_some hf
          refine va_iast (n := 30) (f := M 14) (cA := cI) hx hb hK hP hD hS 10 0 rfl rfl i_M_11 dX9_seen_59 (fun H locs hP hD hS => ?_)
          have hP : va_P D vwCl (w9 cI cB hM (zs M 14 (upd (M 14) ((3 : Int32) * (M 13 0)).toNatClampNeg a1))) H := hP
          have hD : va_D A (w9 cI cB hM (zs M 14 (upd (M 14) ((3 : Int32) * (M 13 0)).toNatClampNeg a1))) := hD
          rw [← e_M_11] at hP hD
          refine lv_aload_n hx hb dX9_seen_60 rfl (lv_at hl 0 rfl) ?_
          refine va_get (D := D) (ci := 9) (v := .ref (hM 10)) (C := RX9) (T := TX9) (N := 23) hx hb hts hi9 hown hK hP 0 rfl rfl 14 (Nat.le_of_ble_eq_true rfl) (hts _ (List.mem_cons_of_mem _ wd_666)) (fun _ h9 => h9) rfl dX9_seen_61 ?_
          refine lv_iconst (v := 3) hx hb dX9_seen_64 (by decide) ?_
          refine lv_aload_n hx hb dX9_seen_65 rfl (lv_at hl 0 rfl) ?_
          refine va_get (D := D) (ci := 9) (v := .int (M_11 13 0)) (C := RX9) (T := TX9) (N := 23) hx hb hts hi9 hown hK hP 0 rfl rfl 13 (Nat.le_of_ble_eq_true rfl) (hts _ (List.mem_cons_of_mem _ wd_665)) (fun _ h9 => h9) rfl dX9_seen_66 ?_
          refine lv_imul hx hb dX9_seen_69 ?_
          refine lv_iconst (v := 1) hx hb dX9_seen_70 (by decide) ?_
          refine lv_iadd hx hb dX9_seen_71 ?_
          refine lv_iload_n hx hb dX9_seen_72 rfl (lv_at hl 2 rfl) ?_
          obtain ⟨i_M_12, M_12, e_M_12, hf⟩ := zw_some hf
          refine va_iast (n := 30) (f := M_11 14) (cA := cI) hx hb hK hP hD hS 10 0 rfl rfl i_M_12 dX9_seen_73 (fun H locs hP hD hS => ?_)
          have hP : va_P D vwCl (w9 cI cB hM (zs M_11 14 (upd (M_11 14) (((3 : Int32) * (M_11 13 0)) + 1).toNatClampNeg a2))) H := hP
          have hD : va_D A (w9 cI cB hM (zs M_11 14 (upd (M_11 14) (((3 : Int32) * (M_11 13 0)) + 1).toNatClampNeg a2))) := hD
          rw [← e_M_12] at hP hD
          refine lv_aload_n hx hb dX9_seen_74 rfl (lv_at hl 0 rfl) ?_
          refine va_get (D := D) (ci := 9) (v := .ref (hM 10)) (C := RX9) (T := TX9) (N := 23) hx hb hts hi9 hown hK hP 0 rfl rfl 14 (Nat.le_of_ble_eq_true rfl) (hts _ (List.mem_cons_of_mem _ wd_666)) (fun _ h9 => h9) rfl dX9_seen_75 ?_
          refine lv_iconst (v := 3) hx hb dX9_seen_78 (by decide) ?_
          refine lv_aload_n hx hb dX9_seen_79 rfl (lv_at hl 0 rfl) ?_
          refine va_get (D := D) (ci := 9) (v := .int (M_12 13 0)) (C := RX9) (T := TX9) (N := 23) hx hb hts hi9 hown hK hP 0 rfl rfl 13 (Nat.le_of_ble_eq_true rfl) (hts _ (List.mem_cons_of_mem _ wd_665)) (fun _ h9 => h9) rfl dX9_seen_80 ?_
          refine lv_imul hx hb dX9_seen_83 ?_
          refine lv_iconst (v := 2) hx hb dX9_seen_84 (by decide) ?_
          refine lv_iadd hx hb dX9_seen_85 ?_
          refine lv_iload_n hx hb dX9_seen_86 rfl (lv_at hl 3 rfl) ?_
          obtain ⟨i_M_13, M_13, e_M_13, hf⟩ := zw_some hf
          refine va_iast (n := 30) (f := M_12 14) (cA := cI) hx hb hK hP hD hS 10 0 rfl rfl i_M_13 dX9_seen_87 (fun H locs hP hD hS => ?_)
          have hP : va_P D vwCl (w9 cI cB hM (zs M_12 14 (upd (M_12 14) (((3 : Int32) * (M_12 13 0)) + 2).toNatClampNeg a3))) H := hP
          have hD : va_D A (w9 cI cB hM (zs M_12 14 (upd (M_12 14) (((3 : Int32) * (M_12 13 0)) + 2).toNatClampNeg a3))) := hD
          rw [← e_M_13] at hP hD
          refine lv_aload_n hx hb dX9_seen_88 rfl (lv_at hl 0 rfl) ?_
          refine lv_dup hx hb dX9_seen_89 rfl ?_
          refine va_get (D := D) (ci := 9) (v := .int (M_13 13 0)) (C := RX9) (T := TX9) (N := 23) hx hb hts hi9 hown hK hP 0 rfl rfl 13 (Nat.le_of_ble_eq_true rfl) (hts _ (List.mem_cons_of_mem _ wd_665)) (fun _ h9 => h9) rfl dX9_seen_90 ?_
          refine lv_iconst (v := 1) hx hb dX9_seen_93 (by decide) ?_
          refine lv_iadd hx hb dX9_seen_94 ?_
          obtain ⟨M_14, e_M_14, hf⟩ := zv_some hf
          refine va_put (D := D) (ci := 9) (v := .int ((M_13 13 0) + 1)) (ty := .int) (C := RX9) (T := TX9) (N := 23) hx hb hts hi9 tyX9 tyX9_ok nmX9 hown hK hP hD hS 0 rfl rfl 13 (Nat.le_of_ble_eq_true rfl) (hts _ (List.mem_cons_of_mem _ wd_665)) (fun _ h9 => h9) rfl (by decide +kernel) rfl rfl (Nat.le_of_ble_eq_true rfl) dX9_seen_95 (fun H locs hP hD hS => ?_)
          have hP : va_P D vwCl (w9 cI cB hM (zs M_13 13 (fun _ => (M_13 13 0) + 1))) H := hP
          have hD : va_D A (w9 cI cB hM (zs M_13 13 (fun _ => (M_13 13 0) + 1))) := hD
          rw [← e_M_14] at hP hD
          refine lv_aload_n hx hb dX9_seen_98 rfl (lv_at hl 0 rfl) ?_
          refine va_get (D := D) (ci := 9) (v := .int (M_14 13 0)) (C := RX9) (T := TX9) (N := 23) hx hb hts hi9 hown hK hP 0 rfl rfl 13 (Nat.le_of_ble_eq_true rfl) (hts _ (List.mem_cons_of_mem _ wd_665)) (fun _ h9 => h9) rfl dX9_seen_99 ?_
          cases hf
          exact zretI hx hb hr hlocks hK hP hD hS dX9_seen_102
        · replace hf := zit c_10 hf
          refine lv_bipush (v := (-3)) hx hb dX9_seen_45 (by decide) ?_
          cases hf
          exact zretI hx hb hr hlocks hK hP hD hS dX9_seen_47
      · replace hf := zit c_9 hf
        refine lv_iconst (v := (-1)) hx hb dX9_seen_34 (by decide) ?_
        cases hf
        exact zretI hx hb hr hlocks hK hP hD hS dX9_seen_35
def f_X9_forget (M : zMm) : Option (Int32 × zMm) := zv (M 13 0) (fun (x1 : Int32) => zv (zs M 13 (fun _ => 0)) (fun (M_2 : zMm) => some (x1, M_2)))
abbrev ww_X9_forget : List Cond := Cond.code yX9_forget cX9_forget 2 (some .int) :: wG
theorem q_X9_forget : yX9_forget.cls = RX9 ∧ yX9_forget.cls ≠ "java/lang/invoke/MethodHandle" ∧ yX9_forget.cls ≠ "java/lang/invoke/VarHandle" ∧ (parseMethodDescriptor yX9_forget.desc).map (fun d => d.parameters.length) = some 0 := by decide +kernel
set_option maxHeartbeats 4000000 in
set_option maxRecDepth 100000 in
theorem c_X9_forget (l : Launch) (D : va_G) (cI cB : ClassId) (hM : Nat → Nat) (M : zMm) (r0 : Int32) (M0 : zMm) (hf : f_X9_forget M = some (r0, M0)) : zMi l yX9_forget ww_X9_forget ({ frames := 0, cells := 0, slots := 0, locals := 0 } : Room) D cI cB [.ref (hM 0)] (w9 cI cB hM M) r0 (w9 cI cB hM M0) := by
  refine zofI (cc := cX9_forget) (maxL := 2) (ret := (some .int)) (by decide +kernel) rfl (Nat.le_of_ble_eq_true rfl) ?_
  intro p e s m below meth c A ls hx hb hml hr hown hts hlocks hK hP hD hS hA hl
  have hl : lv_has ls 2 [(0, .ref (hM 0))] := hl
  have hown : s.vm.findClass RX9 = some m.cls := hown
  have hG : ∀ w ∈ wG, w ∈ ww_X9_forget := fun w h => List.mem_cons_of_mem _ h
  have hi9 : ∀ w ∈ wsX90, w ∈ ww_X9_forget := fun w h => List.mem_cons_of_mem _ (z_inX9 w h)
  unfold f_X9_forget at hf
  refine lv_aload_n hx hb dX9_forget_0 rfl (lv_at hl 0 rfl) ?_
  refine va_get (D := D) (ci := 9) (v := .int (M 13 0)) (C := RX9) (T := TX9) (N := 23) hx hb hts hi9 hown hK hP 0 rfl rfl 13 (Nat.le_of_ble_eq_true rfl) (hts _ (List.mem_cons_of_mem _ wd_665)) (fun _ h9 => h9) rfl dX9_forget_1 ?_
  obtain ⟨x1, e_x1, hf⟩ := zv_some hf
  refine zt e_x1 ?_
  refine lv_istore_n (lv' := [(1, .int x1), (0, .ref (hM 0))]) hx hb dX9_forget_4 rfl hl (by decide) rfl (fun ls hl => ?_)
  refine lv_aload_n hx hb dX9_forget_5 rfl (lv_at hl 1 rfl) ?_
  refine lv_iconst (v := 0) hx hb dX9_forget_6 (by decide) ?_
  obtain ⟨M_2, e_M_2, hf⟩ := zv_some hf
  refine va_put (D := D) (ci := 9) (v := .int 0) (ty := .int) (C := RX9) (T := TX9) (N := 23) hx hb hts hi9 tyX9 tyX9_ok nmX9 hown hK hP hD hS 0 rfl rfl 13 (Nat.le_of_ble_eq_true rfl) (hts _ (List.mem_cons_of_mem _ wd_665)) (fun _ h9 => h9) rfl (by decide +kernel) rfl rfl (Nat.le_of_ble_eq_true rfl) dX9_forget_7 (fun H locs hP hD hS => ?_)
  have hP : va_P D vwCl (w9 cI cB hM (zs M 13 (fun _ => 0))) H := hP
  have hD : va_D A (w9 cI cB hM (zs M 13 (fun _ => 0))) := hD
  rw [← e_M_2] at hP hD
  refine lv_iload_n hx hb dX9_forget_10 rfl (lv_at hl 0 rfl) ?_
  cases hf
  exact zretI hx hb hr hlocks hK hP hD hS dX9_forget_11
def L_X9_inch_43 (M : zMm) (l1 : Int32) (l2 : Int32) (l3 : Int32) (l4 : Int32) (l5 : Int32) : Nat → Int32 → Int32 → Option (Int32 × Int32)
  | 0, _, _ => none
  | n + 1, l6, l7 => if (M 13 0) ≤ l7 then some (l6, l7) else zb1 (if l6 = 0 then some (0 : Int32) else zl 30 (M 14) ((3 : Int32) * l7) (fun v13 => if v13 = l1 then zl 30 (M 14) (((3 : Int32) * l7) + 1) (fun v15 => zl 30 (M 14) (((3 : Int32) * l7) + 2) (fun v16 => if ((v15 * l5) / (100 : Int32)) = v16 then some (1 : Int32) else some (0 : Int32))) else some (1 : Int32))) (fun (y10 : Int32) => zv (l7 + 1) (fun (x18 : Int32) => L_X9_inch_43 M l1 l2 l3 l4 l5 n y10 x18))
def L_X9_inch_30 (M : zMm) (l1 : Int32) (l2 : Int32) : Nat → Int32 → Int32 → Int32 → Option (Int32 × Int32 × Int32)
  | 0, _, _, _ => none
  | n + 1, l3, l4, l5 => if l5 < 80 then some (l3, l4, l5) else zb2 (L_X9_inch_43 M l1 l2 l3 l4 l5 100000 1 0) (fun (x8 : Int32) (x9 : Int32) => zb1 (if x8 = 0 then some (0 : Int32) else some (1 : Int32)) (fun (y12 : Int32) => zv (l3 + y12) (fun (x15 : Int32) => zb1 (if x8 = 0 then some l4 else some l5) (fun (y17 : Int32) => zv (l5 + (-1)) (fun (x20 : Int32) => L_X9_inch_30 M l1 l2 n x15 y17 x20)))))
def f_X9_inch (M : zMm) (a1 : Int32) (a2 : Int32) : Option (Int32) := zb1 (f_X9_isTailor M a1) (fun (r1 : Int32) => if r1 = 0 then some ((-1) : Int32) else zb1 (f_X9_in (a2.toInt64) 0 1) (fun (r4 : Int32) => if r4 = 0 then some ((-1) : Int32) else zb3 (L_X9_inch_30 M a1 a2 100000 0 (-4) 120) (fun (x21 : Int32) (x22 : Int32) (x23 : Int32) => if a2 = 0 then some x21 else some x22)))
abbrev ww_X9_inch : List Cond := Cond.code yX9_inch cX9_inch 8 (some .int) :: wG
theorem q_X9_inch : yX9_inch.cls = RX9 ∧ yX9_inch.cls ≠ "java/lang/invoke/MethodHandle" ∧ yX9_inch.cls ≠ "java/lang/invoke/VarHandle" ∧ (parseMethodDescriptor yX9_inch.desc).map (fun d => d.parameters.length) = some 2 := by decide +kernel
set_option maxHeartbeats 4000000 in
set_option maxRecDepth 100000 in
theorem c_X9_inch (l : Launch) (D : va_G) (cI cB : ClassId) (hM : Nat → Nat) (M : zMm) (a1 : Int32) (a2 : Int32) (r0 : Int32) (hf : f_X9_inch M a1 a2 = some r0) : zMi l yX9_inch ww_X9_inch ({ frames := 2, cells := 0, slots := 0, locals := 46 } : Room) D cI cB [.ref (hM 0), .int a1, .int a2] [k9_0 cI cB hM M, k9_3 cI cB hM M, k9_10 cI cB hM M] r0 [k9_0 cI cB hM M, k9_3 cI cB hM M, k9_10 cI cB hM M] := by
  refine zofI (cc := cX9_inch) (maxL := 8) (ret := (some .int)) (by decide +kernel) rfl (Nat.le_of_ble_eq_true rfl) ?_
  intro p e s m below meth c A ls hx hb hml hr hown hts hlocks hK hP hD hS hA hl
  have hl : lv_has ls 8 [(0, .ref (hM 0)), (1, .int a1), (2, .int a2)] := hl
  have hown : s.vm.findClass RX9 = some m.cls := hown
  have hG : ∀ w ∈ wG, w ∈ ww_X9_inch := fun w h => List.mem_cons_of_mem _ h
  have hi9 : ∀ w ∈ wsX90, w ∈ ww_X9_inch := fun w h => List.mem_cons_of_mem _ (z_inX9 w h)
  have L43 : ∀ (M : zMm) (l1 : Int32) (l2 : Int32) (l3 : Int32) (l4 : Int32) (l5 : Int32) (n : Nat) (l6 : Int32) (l7 : Int32) (o6 : Int32) (o7 : Int32), L_X9_inch_43 M l1 l2 l3 l4 l5 n l6 l7 = some (o6, o7) → zAt p l e ({ frames := 2, cells := 0, slots := 0, locals := 46 } : Room) s m [.ref (hM 0), .int a1, .int a2].toArray below meth c (MQ below (zQi D cI cB r0 [k9_0 cI cB hM M, k9_3 cI cB hM M, k9_10 cI cB hM M] A) [.ref (hM 0), .int a1, .int a2].toArray s 0 0 A) A D 8 [k9_0 cI cB hM M, k9_3 cI cB hM M, k9_10 cI cB hM M] [(0, .ref (hM 0)), (1, .int l1), (2, .int l2), (3, .int l3), (4, .int l4), (5, .int l5), (6, .int o6), (7, .int o7)] 114 [] → zAt p l e ({ frames := 2, cells := 0, slots := 0, locals := 46 } : Room) s m [.ref (hM 0), .int a1, .int a2].toArray below meth c (MQ below (zQi D cI cB r0 [k9_0 cI cB hM M, k9_3 cI cB hM M, k9_10 cI cB hM M] A) [.ref (hM 0), .int a1, .int a2].toArray s 0 0 A) A D 8 [k9_0 cI cB hM M, k9_3 cI cB hM M, k9_10 cI cB hM M] [(0, .ref (hM 0)), (1, .int l1), (2, .int l2), (3, .int l3), (4, .int l4), (5, .int l5), (6, .int l6), (7, .int l7)] 43 [] := by
    intro M l1 l2 l3 l4 l5 n
    induction n with
    | zero => intro l6 l7 o6 o7 hf; simp [L_X9_inch_43] at hf
    | succ n ih =>
      intro l6 l7 o6 o7 hf hk H locs ls hP hD hS hl
      rw [L_X9_inch_43] at hf
      refine lv_iload hx hb dX9_inch_43 (lv_at hl 7 rfl) ?_
      refine lv_aload_n hx hb dX9_inch_45 rfl (lv_at hl 0 rfl) ?_
      refine va_get (D := D) (ci := 9) (v := .int (M 13 0)) (C := RX9) (T := TX9) (N := 23) hx hb hts hi9 hown hK hP 0 rfl rfl 13 (Nat.le_of_ble_eq_true rfl) (hts _ (List.mem_cons_of_mem _ wd_665)) (fun _ h9 => h9) rfl dX9_inch_46 ?_
      refine lv_icmp_ge (tgt := 114) hx hb dX9_inch_49 (by decide) (fun c_8 => ?_) (fun c_8 => ?_)
      · replace hf := zit c_8 hf
        cases hf
        exact hk _ _ _ hP hD hS (lv_sub hl [0, 1, 2, 3, 4, 5, 6, 7] rfl)
      · replace hf := zif c_8 hf
        refine lv_iload hx hb dX9_inch_52 (lv_at hl 6 rfl) ?_
        obtain ⟨y10, hq11, hf⟩ := zb1_some hf
        have J12 : zAt p l e ({ frames := 2, cells := 0, slots := 0, locals := 46 } : Room) s m [.ref (hM 0), .int a1, .int a2].toArray below meth c (MQ below (zQi D cI cB r0 [k9_0 cI cB hM M, k9_3 cI cB hM M, k9_10 cI cB hM M] A) [.ref (hM 0), .int a1, .int a2].toArray s 0 0 A) A D 8 [k9_0 cI cB hM M, k9_3 cI cB hM M, k9_10 cI cB hM M] [(0, .ref (hM 0)), (1, .int l1), (2, .int l2), (3, .int l3), (4, .int l4), (5, .int l5), (6, .int l6), (7, .int l7)] 106 [.int y10] := by
          intro H locs ls hP hD hS hl
          refine lv_istore (lv' := [(6, .int y10), (0, .ref (hM 0)), (1, .int l1), (2, .int l2), (3, .int l3), (4, .int l4), (5, .int l5), (7, .int l7)]) hx hb dX9_inch_106 hl (by decide) rfl (fun ls hl => ?_)
          obtain ⟨x18, e_x18, hf⟩ := zv_some hf
          refine lv_iinc (v := x18) (lv' := [(7, .int x18), (6, .int y10), (0, .ref (hM 0)), (1, .int l1), (2, .int l2), (3, .int l3), (4, .int l4), (5, .int l5)]) hx hb dX9_inch_108 hl (k := 7) rfl (by rw [e_x18]; rfl) (by decide) rfl (fun ls hl => ?_)
          refine lv_goto (tgt := 43) hx hb dX9_inch_111 (by decide) ?_
          exact ih _ _ _ _ hf hk _ _ _ hP hD hS (lv_sub hl [2, 3, 4, 5, 6, 7, 1, 0] rfl)
        replace hf := hq11
        refine lv_if_eq (tgt := 105) hx hb dX9_inch_54 (by decide) (fun c_9 => ?_) (fun c_9 => ?_)
        · replace hf := zit c_9 hf
          refine lv_iconst (v := 0) hx hb dX9_inch_105 (by decide) ?_
          cases hf
          exact J12 _ _ _ hP hD hS (lv_sub hl [0, 1, 2, 3, 4, 5, 6, 7] rfl)
        · replace hf := zif c_9 hf
          refine lv_aload_n hx hb dX9_inch_57 rfl (lv_at hl 0 rfl) ?_
          refine va_get (D := D) (ci := 9) (v := .ref (hM 10)) (C := RX9) (T := TX9) (N := 23) hx hb hts hi9 hown hK hP 0 rfl rfl 14 (Nat.le_of_ble_eq_true rfl) (hts _ (List.mem_cons_of_mem _ wd_666)) (fun _ h9 => h9) rfl dX9_inch_58 ?_
          refine lv_iconst (v := 3) hx hb dX9_inch_61 (by decide) ?_
          refine lv_iload hx hb dX9_inch_62 (lv_at hl 7 rfl) ?_
          refine lv_imul hx hb dX9_inch_64 ?_
          obtain ⟨i_v13, v13, e_v13, hf⟩ := zl_some hf
          refine va_iald (n := 30) (f := M 14) (cA := cI) hx hb hK hP 2 0 rfl rfl i_v13 dX9_inch_65 ?_
          refine zt e_v13 ?_
          refine lv_iload_n hx hb dX9_inch_66 rfl (lv_at hl 1 rfl) ?_
          refine lv_icmp_ne (tgt := 101) hx hb dX9_inch_67 (by decide) (fun c_14 => ?_) (fun c_14 => ?_)
          · replace hf := zif c_14 hf
            refine lv_iconst (v := 1) hx hb dX9_inch_101 (by decide) ?_
            refine lv_goto (tgt := 106) hx hb dX9_inch_102 (by decide) ?_
            cases hf
            exact J12 _ _ _ hP hD hS (lv_sub hl [0, 1, 2, 3, 4, 5, 6, 7] rfl)
          · replace hf := zit c_14 hf
            refine lv_aload_n hx hb dX9_inch_70 rfl (lv_at hl 0 rfl) ?_
            refine va_get (D := D) (ci := 9) (v := .ref (hM 10)) (C := RX9) (T := TX9) (N := 23) hx hb hts hi9 hown hK hP 0 rfl rfl 14 (Nat.le_of_ble_eq_true rfl) (hts _ (List.mem_cons_of_mem _ wd_666)) (fun _ h9 => h9) rfl dX9_inch_71 ?_
            refine lv_iconst (v := 3) hx hb dX9_inch_74 (by decide) ?_
            refine lv_iload hx hb dX9_inch_75 (lv_at hl 7 rfl) ?_
            refine lv_imul hx hb dX9_inch_77 ?_
            refine lv_iconst (v := 1) hx hb dX9_inch_78 (by decide) ?_
            refine lv_iadd hx hb dX9_inch_79 ?_
            obtain ⟨i_v15, v15, e_v15, hf⟩ := zl_some hf
            refine va_iald (n := 30) (f := M 14) (cA := cI) hx hb hK hP 2 0 rfl rfl i_v15 dX9_inch_80 ?_
            refine zt e_v15 ?_
            refine lv_iload hx hb dX9_inch_81 (lv_at hl 5 rfl) ?_
            refine lv_imul hx hb dX9_inch_83 ?_
            refine lv_bipush (v := 100) hx hb dX9_inch_84 (by decide) ?_
            refine lv_idiv hx hb dX9_inch_86 (by decide) ?_
            refine lv_aload_n hx hb dX9_inch_87 rfl (lv_at hl 0 rfl) ?_
            refine va_get (D := D) (ci := 9) (v := .ref (hM 10)) (C := RX9) (T := TX9) (N := 23) hx hb hts hi9 hown hK hP 0 rfl rfl 14 (Nat.le_of_ble_eq_true rfl) (hts _ (List.mem_cons_of_mem _ wd_666)) (fun _ h9 => h9) rfl dX9_inch_88 ?_
            refine lv_iconst (v := 3) hx hb dX9_inch_91 (by decide) ?_
            refine lv_iload hx hb dX9_inch_92 (lv_at hl 7 rfl) ?_
            refine lv_imul hx hb dX9_inch_94 ?_
            refine lv_iconst (v := 2) hx hb dX9_inch_95 (by decide) ?_
            refine lv_iadd hx hb dX9_inch_96 ?_
            obtain ⟨i_v16, v16, e_v16, hf⟩ := zl_some hf
            refine va_iald (n := 30) (f := M 14) (cA := cI) hx hb hK hP 2 0 rfl rfl i_v16 dX9_inch_97 ?_
            refine zt e_v16 ?_
            refine lv_icmp_ne (tgt := 105) hx hb dX9_inch_98 (by decide) (fun c_17 => ?_) (fun c_17 => ?_)
            · replace hf := zif c_17 hf
              refine lv_iconst (v := 0) hx hb dX9_inch_105 (by decide) ?_
              cases hf
              exact J12 _ _ _ hP hD hS (lv_sub hl [0, 1, 2, 3, 4, 5, 6, 7] rfl)
            · replace hf := zit c_17 hf
              refine lv_iconst (v := 1) hx hb dX9_inch_101 (by decide) ?_
              refine lv_goto (tgt := 106) hx hb dX9_inch_102 (by decide) ?_
              cases hf
              exact J12 _ _ _ hP hD hS (lv_sub hl [0, 1, 2, 3, 4, 5, 6, 7] rfl)
  have L30 : ∀ (M : zMm) (l1 : Int32) (l2 : Int32) (n : Nat) (l3 : Int32) (l4 : Int32) (l5 : Int32) (o3 : Int32) (o4 : Int32) (o5 : Int32), L_X9_inch_30 M l1 l2 n l3 l4 l5 = some (o3, o4, o5) → zAt p l e ({ frames := 2, cells := 0, slots := 0, locals := 46 } : Room) s m [.ref (hM 0), .int a1, .int a2].toArray below meth c (MQ below (zQi D cI cB r0 [k9_0 cI cB hM M, k9_3 cI cB hM M, k9_10 cI cB hM M] A) [.ref (hM 0), .int a1, .int a2].toArray s 0 0 A) A D 8 [k9_0 cI cB hM M, k9_3 cI cB hM M, k9_10 cI cB hM M] [(0, .ref (hM 0)), (1, .int l1), (2, .int l2), (3, .int o3), (4, .int o4), (5, .int o5)] 147 [] → zAt p l e ({ frames := 2, cells := 0, slots := 0, locals := 46 } : Room) s m [.ref (hM 0), .int a1, .int a2].toArray below meth c (MQ below (zQi D cI cB r0 [k9_0 cI cB hM M, k9_3 cI cB hM M, k9_10 cI cB hM M] A) [.ref (hM 0), .int a1, .int a2].toArray s 0 0 A) A D 8 [k9_0 cI cB hM M, k9_3 cI cB hM M, k9_10 cI cB hM M] [(0, .ref (hM 0)), (1, .int l1), (2, .int l2), (3, .int l3), (4, .int l4), (5, .int l5)] 30 [] := by
    intro M l1 l2 n
    induction n with
    | zero => intro l3 l4 l5 o3 o4 o5 hf; simp [L_X9_inch_30] at hf
    | succ n ih =>
      intro l3 l4 l5 o3 o4 o5 hf hk H locs ls hP hD hS hl
      rw [L_X9_inch_30] at hf
      refine lv_iload hx hb dX9_inch_30 (lv_at hl 5 rfl) ?_
      refine lv_bipush (v := 80) hx hb dX9_inch_32 (by decide) ?_
      refine lv_icmp_lt (tgt := 147) hx hb dX9_inch_34 (by decide) (fun c_7 => ?_) (fun c_7 => ?_)
      · replace hf := zit c_7 hf
        cases hf
        exact hk _ _ _ hP hD hS (lv_sub hl [0, 1, 2, 3, 4, 5] rfl)
      · replace hf := zif c_7 hf
        refine lv_iconst (v := 1) hx hb dX9_inch_37 (by decide) ?_
        refine lv_istore (lv' := [(6, .int 1), (0, .ref (hM 0)), (1, .int l1), (2, .int l2), (3, .int l3), (4, .int l4), (5, .int l5)]) hx hb dX9_inch_38 hl (by decide) rfl (fun ls hl => ?_)
        refine lv_iconst (v := 0) hx hb dX9_inch_40 (by decide) ?_
        refine lv_istore (lv' := [(7, .int 0), (6, .int 1), (0, .ref (hM 0)), (1, .int l1), (2, .int l2), (3, .int l3), (4, .int l4), (5, .int l5)]) hx hb dX9_inch_41 hl (by decide) rfl (fun ls hl => ?_)
        obtain ⟨x8, x9, hq10, hf⟩ := zb2_some hf
        refine L43 _ _ _ _ _ _ _ _ _ _ _ hq10 ?_ _ _ _ hP hD hS (lv_sub hl [2, 3, 4, 5, 6, 7, 1, 0] rfl)
        intro H locs ls hP hD hS hl
        refine lv_iload_n hx hb dX9_inch_114 rfl (lv_at hl 3 rfl) ?_
        refine lv_iload hx hb dX9_inch_115 (lv_at hl 6 rfl) ?_
        obtain ⟨y12, hq13, hf⟩ := zb1_some hf
        have J14 : zAt p l e ({ frames := 2, cells := 0, slots := 0, locals := 46 } : Room) s m [.ref (hM 0), .int a1, .int a2].toArray below meth c (MQ below (zQi D cI cB r0 [k9_0 cI cB hM M, k9_3 cI cB hM M, k9_10 cI cB hM M] A) [.ref (hM 0), .int a1, .int a2].toArray s 0 0 A) A D 8 [k9_0 cI cB hM M, k9_3 cI cB hM M, k9_10 cI cB hM M] [(0, .ref (hM 0)), (1, .int l1), (2, .int l2), (3, .int l3), (4, .int l4), (5, .int l5), (6, .int x8), (7, .int x9)] 125 [.int y12, .int l3] := by
          intro H locs ls hP hD hS hl
          refine lv_iadd hx hb dX9_inch_125 ?_
          obtain ⟨x15, e_x15, hf⟩ := zv_some hf
          refine zt e_x15 ?_
          refine lv_istore_n (lv' := [(3, .int x15), (0, .ref (hM 0)), (1, .int l1), (2, .int l2), (4, .int l4), (5, .int l5), (6, .int x8), (7, .int x9)]) hx hb dX9_inch_126 rfl hl (by decide) rfl (fun ls hl => ?_)
          refine lv_iload hx hb dX9_inch_127 (lv_at hl 6 rfl) ?_
          obtain ⟨y17, hq18, hf⟩ := zb1_some hf
          have J19 : zAt p l e ({ frames := 2, cells := 0, slots := 0, locals := 46 } : Room) s m [.ref (hM 0), .int a1, .int a2].toArray below meth c (MQ below (zQi D cI cB r0 [k9_0 cI cB hM M, k9_3 cI cB hM M, k9_10 cI cB hM M] A) [.ref (hM 0), .int a1, .int a2].toArray s 0 0 A) A D 8 [k9_0 cI cB hM M, k9_3 cI cB hM M, k9_10 cI cB hM M] [(0, .ref (hM 0)), (1, .int l1), (2, .int l2), (3, .int x15), (4, .int l4), (5, .int l5), (6, .int x8), (7, .int x9)] 139 [.int y17] := by
            intro H locs ls hP hD hS hl
            refine lv_istore (lv' := [(4, .int y17), (0, .ref (hM 0)), (1, .int l1), (2, .int l2), (3, .int x15), (5, .int l5), (6, .int x8), (7, .int x9)]) hx hb dX9_inch_139 hl (by decide) rfl (fun ls hl => ?_)
            obtain ⟨x20, e_x20, hf⟩ := zv_some hf
            refine lv_iinc (v := x20) (lv' := [(5, .int x20), (4, .int y17), (0, .ref (hM 0)), (1, .int l1), (2, .int l2), (3, .int x15), (6, .int x8), (7, .int x9)]) hx hb dX9_inch_141 hl (k := 5) rfl (by rw [e_x20]; rfl) (by decide) rfl (fun ls hl => ?_)
            refine lv_goto (tgt := 30) hx hb dX9_inch_144 (by decide) ?_
            exact ih _ _ _ _ _ _ hf hk _ _ _ hP hD hS (lv_sub hl [2, 3, 4, 5, 1, 0] rfl)
          replace hf := hq18
          refine lv_if_eq (tgt := 137) hx hb dX9_inch_129 (by decide) (fun c_16 => ?_) (fun c_16 => ?_)
          · replace hf := zit c_16 hf
            refine lv_iload hx hb dX9_inch_137 (lv_at hl 4 rfl) ?_
            cases hf
            exact J19 _ _ _ hP hD hS (lv_sub hl [1, 2, 3, 0, 4, 5, 6, 7] rfl)
          · replace hf := zif c_16 hf
            refine lv_iload hx hb dX9_inch_132 (lv_at hl 5 rfl) ?_
            refine lv_goto (tgt := 139) hx hb dX9_inch_134 (by decide) ?_
            cases hf
            exact J19 _ _ _ hP hD hS (lv_sub hl [1, 2, 3, 0, 4, 5, 6, 7] rfl)
        replace hf := hq13
        refine lv_if_eq (tgt := 124) hx hb dX9_inch_117 (by decide) (fun c_11 => ?_) (fun c_11 => ?_)
        · replace hf := zit c_11 hf
          refine lv_iconst (v := 0) hx hb dX9_inch_124 (by decide) ?_
          cases hf
          exact J14 _ _ _ hP hD hS (lv_sub hl [0, 1, 2, 3, 4, 5, 6, 7] rfl)
        · replace hf := zif c_11 hf
          refine lv_iconst (v := 1) hx hb dX9_inch_120 (by decide) ?_
          refine lv_goto (tgt := 125) hx hb dX9_inch_121 (by decide) ?_
          cases hf
          exact J14 _ _ _ hP hD hS (lv_sub hl [0, 1, 2, 3, 4, 5, 6, 7] rfl)
  unfold f_X9_inch at hf
  refine lv_aload_n hx hb dX9_inch_0 rfl (lv_at hl 0 rfl) ?_
  refine lv_iload_n hx hb dX9_inch_1 rfl (lv_at hl 1 rfl) ?_
  obtain ⟨r1, hq2, hf⟩ := zb1_some hf
  refine zcallVi (ws2 := [k9_0 cI cB hM M, k9_3 cI cB hM M, k9_10 cI cB hM M]) (rest := []) ⟨hx, hb, hml, hown, hts⟩ (c_X9_isTailor l D cI cB hM M a1 r1 hq2) (cwV 1 hts (z_gV hG wd_862 wd_864 wd_s37 wd_15 wd_865) rfl rfl rfl q_X9_isTailor ⟨Nat.le_of_ble_eq_true rfl, Nat.le_of_ble_eq_true rfl⟩) hK hP hD hS hA 9 rfl rfl rfl [0, 1] [2] rfl rfl rfl rfl rfl rfl rfl hl.1 (Nat.le_of_ble_eq_true rfl) dX9_inch_2 ⟨Nat.zero_le _, Nat.zero_le _⟩ rfl (fun H locs hP hD hS => ?_)
  refine lv_if_eq (tgt := 18) hx hb dX9_inch_5 (by decide) (fun c_3 => ?_) (fun c_3 => ?_)
  · replace hf := zit c_3 hf
    refine lv_iconst (v := (-1)) hx hb dX9_inch_18 (by decide) ?_
    cases hf
    exact zretI hx hb hr hlocks hK hP hD hS dX9_inch_19
  · replace hf := zif c_3 hf
    refine lv_iload_n hx hb dX9_inch_8 rfl (lv_at hl 2 rfl) ?_
    refine lv_i2l hx hb dX9_inch_9 rfl ?_
    refine lv_lconst (v := 0) hx hb dX9_inch_10 (by decide) ?_
    refine lv_lconst (v := 1) hx hb dX9_inch_11 (by decide) ?_
    obtain ⟨r4, hq5, hf⟩ := zb1_some hf
    refine zcallSi (rest := []) ⟨hx, hb, hml, hown, hts⟩ (c_X9_in l D cI cB (a2.toInt64) 0 1 r4 hq5) (z_cwS 3 hts (z_gS hG wd_727 wd_728 wd_15 wd_729) rfl rfl rfl q_X9_in ⟨Nat.le_of_ble_eq_true rfl, Nat.le_of_ble_eq_true rfl⟩) hK hP hD hS hA rfl hl.1 (Nat.le_of_ble_eq_true rfl) dX9_inch_12 ⟨Nat.zero_le _, Nat.zero_le _⟩ rfl (fun H locs hP hD hS => ?_)
    refine lv_if_ne (tgt := 20) hx hb dX9_inch_15 (by decide) (fun c_6 => ?_) (fun c_6 => ?_)
    · replace hf := zif c_6 hf
      refine lv_iconst (v := 0) hx hb dX9_inch_20 (by decide) ?_
      refine lv_istore_n (lv' := [(3, .int 0), (0, .ref (hM 0)), (1, .int a1), (2, .int a2)]) hx hb dX9_inch_21 rfl hl (by decide) rfl (fun ls hl => ?_)
      refine lv_bipush (v := (-4)) hx hb dX9_inch_22 (by decide) ?_
      refine lv_istore (lv' := [(4, .int (-4)), (3, .int 0), (0, .ref (hM 0)), (1, .int a1), (2, .int a2)]) hx hb dX9_inch_24 hl (by decide) rfl (fun ls hl => ?_)
      refine lv_bipush (v := 120) hx hb dX9_inch_26 (by decide) ?_
      refine lv_istore (lv' := [(5, .int 120), (4, .int (-4)), (3, .int 0), (0, .ref (hM 0)), (1, .int a1), (2, .int a2)]) hx hb dX9_inch_28 hl (by decide) rfl (fun ls hl => ?_)
      obtain ⟨x21, x22, x23, hq24, hf⟩ := zb3_some hf
      refine L30 _ _ _ _ _ _ _ _ _ _ hq24 ?_ _ _ _ hP hD hS (lv_sub hl [3, 4, 5, 2, 1, 0] rfl)
      intro H locs ls hP hD hS hl
      refine lv_iload_n hx hb dX9_inch_147 rfl (lv_at hl 2 rfl) ?_
      refine lv_if_ne (tgt := 155) hx hb dX9_inch_148 (by decide) (fun c_25 => ?_) (fun c_25 => ?_)
      · replace hf := zif c_25 hf
        refine lv_iload hx hb dX9_inch_155 (lv_at hl 4 rfl) ?_
        cases hf
        exact zretI hx hb hr hlocks hK hP hD hS dX9_inch_157
      · replace hf := zit c_25 hf
        refine lv_iload_n hx hb dX9_inch_151 rfl (lv_at hl 3 rfl) ?_
        refine lv_goto (tgt := 157) hx hb dX9_inch_152 (by decide) ?_
        cases hf
        exact zretI hx hb hr hlocks hK hP hD hS dX9_inch_157
    · replace hf := zit c_6 hf
      refine lv_iconst (v := (-1)) hx hb dX9_inch_18 (by decide) ?_
      cases hf
      exact zretI hx hb hr hlocks hK hP hD hS dX9_inch_19
def L_X9_added_24 (M : zMm) (l1 : Int32) (l2 : Int32) : Nat → Int32 → Option (Int32)
  | 0, _ => none
  | n + 1, l3 => if (10 : Int32) ≤ l3 then some ((-4) : Int32) else zb1 (f_X9_cutOf M l1 (-l3)) (fun (r8 : Int32) => if r8 = l2 then some ((100 : Int32) - l3) else zb1 (f_X9_cutOf M l1 l3) (fun (r11 : Int32) => if r11 = l2 then some ((100 : Int32) + l3) else zv (l3 + 1) (fun (x14 : Int32) => L_X9_added_24 M l1 l2 n x14)))
def f_X9_added (M : zMm) (a1 : Int32) (a2 : Int32) : Option (Int32) := zb1 (f_X9_isPart M a1) (fun (r1 : Int32) => if r1 = 0 then some ((-1) : Int32) else zb1 (f_X9_in (a2.toInt64) 1 299) (fun (r4 : Int32) => if r4 = 0 then some ((-1) : Int32) else L_X9_added_24 M a1 a2 100000 0))
abbrev ww_X9_added : List Cond := Cond.code yX9_added cX9_added 4 (some .int) :: wG
theorem q_X9_added : yX9_added.cls = RX9 ∧ yX9_added.cls ≠ "java/lang/invoke/MethodHandle" ∧ yX9_added.cls ≠ "java/lang/invoke/VarHandle" ∧ (parseMethodDescriptor yX9_added.desc).map (fun d => d.parameters.length) = some 2 := by decide +kernel
set_option maxHeartbeats 4000000 in
set_option maxRecDepth 100000 in
theorem c_X9_added (l : Launch) (D : va_G) (cI cB : ClassId) (hM : Nat → Nat) (M : zMm) (a1 : Int32) (a2 : Int32) (r0 : Int32) (hf : f_X9_added M a1 a2 = some r0) : zMi l yX9_added ww_X9_added ({ frames := 2, cells := 0, slots := 0, locals := 46 } : Room) D cI cB [.ref (hM 0), .int a1, .int a2] [k9_0 cI cB hM M, k9_4 cI cB hM M, k9_5 cI cB hM M, k9_6 cI cB hM M] r0 [k9_0 cI cB hM M, k9_4 cI cB hM M, k9_5 cI cB hM M, k9_6 cI cB hM M] := by
  refine zofI (cc := cX9_added) (maxL := 4) (ret := (some .int)) (by decide +kernel) rfl (Nat.le_of_ble_eq_true rfl) ?_
  intro p e s m below meth c A ls hx hb hml hr hown hts hlocks hK hP hD hS hA hl
  have hl : lv_has ls 4 [(0, .ref (hM 0)), (1, .int a1), (2, .int a2)] := hl
  have hown : s.vm.findClass RX9 = some m.cls := hown
  have hG : ∀ w ∈ wG, w ∈ ww_X9_added := fun w h => List.mem_cons_of_mem _ h
  have L24 : ∀ (M : zMm) (l1 : Int32) (l2 : Int32) (n : Nat) (l3 : Int32), L_X9_added_24 M l1 l2 n l3 = some r0 → zAt p l e ({ frames := 2, cells := 0, slots := 0, locals := 46 } : Room) s m [.ref (hM 0), .int a1, .int a2].toArray below meth c (MQ below (zQi D cI cB r0 [k9_0 cI cB hM M, k9_4 cI cB hM M, k9_5 cI cB hM M, k9_6 cI cB hM M] A) [.ref (hM 0), .int a1, .int a2].toArray s 0 0 A) A D 4 [k9_0 cI cB hM M, k9_4 cI cB hM M, k9_5 cI cB hM M, k9_6 cI cB hM M] [(0, .ref (hM 0)), (1, .int l1), (2, .int l2), (3, .int l3)] 24 [] := by
    intro M l1 l2 n
    induction n with
    | zero => intro l3 hf; simp [L_X9_added_24] at hf
    | succ n ih =>
      intro l3 hf H locs ls hP hD hS hl
      rw [L_X9_added_24] at hf
      refine lv_iload_n hx hb dX9_added_24 rfl (lv_at hl 3 rfl) ?_
      refine lv_bipush (v := 10) hx hb dX9_added_25 (by decide) ?_
      refine lv_icmp_ge (tgt := 67) hx hb dX9_added_27 (by decide) (fun c_7 => ?_) (fun c_7 => ?_)
      · replace hf := zit c_7 hf
        refine lv_bipush (v := (-4)) hx hb dX9_added_67 (by decide) ?_
        cases hf
        exact zretI hx hb hr hlocks hK hP hD hS dX9_added_69
      · replace hf := zif c_7 hf
        refine lv_aload_n hx hb dX9_added_30 rfl (lv_at hl 0 rfl) ?_
        refine lv_iload_n hx hb dX9_added_31 rfl (lv_at hl 1 rfl) ?_
        refine lv_iload_n hx hb dX9_added_32 rfl (lv_at hl 3 rfl) ?_
        refine lv_ineg hx hb dX9_added_33 ?_
        obtain ⟨r8, hq9, hf⟩ := zb1_some hf
        refine zcallVi (ws2 := [k9_0 cI cB hM M, k9_4 cI cB hM M, k9_5 cI cB hM M, k9_6 cI cB hM M]) (rest := []) ⟨hx, hb, hml, hown, hts⟩ (c_X9_cutOf l D cI cB hM M l1 (-l3) r8 hq9) (cwV 2 hts (z_gV hG wd_789 wd_791 wd_s29 wd_15 wd_792) rfl rfl rfl q_X9_cutOf ⟨Nat.le_of_ble_eq_true rfl, Nat.le_of_ble_eq_true rfl⟩) hK hP hD hS hA 9 rfl rfl rfl [0, 1, 3] [2] rfl rfl rfl rfl rfl rfl rfl hl.1 (Nat.le_of_ble_eq_true rfl) dX9_added_34 ⟨Nat.zero_le _, Nat.zero_le _⟩ rfl (fun H locs hP hD hS => ?_)
        refine lv_iload_n hx hb dX9_added_37 rfl (lv_at hl 2 rfl) ?_
        refine lv_icmp_ne (tgt := 46) hx hb dX9_added_38 (by decide) (fun c_10 => ?_) (fun c_10 => ?_)
        · replace hf := zif c_10 hf
          refine lv_aload_n hx hb dX9_added_46 rfl (lv_at hl 0 rfl) ?_
          refine lv_iload_n hx hb dX9_added_47 rfl (lv_at hl 1 rfl) ?_
          refine lv_iload_n hx hb dX9_added_48 rfl (lv_at hl 3 rfl) ?_
          obtain ⟨r11, hq12, hf⟩ := zb1_some hf
          refine zcallVi (ws2 := [k9_0 cI cB hM M, k9_4 cI cB hM M, k9_5 cI cB hM M, k9_6 cI cB hM M]) (rest := []) ⟨hx, hb, hml, hown, hts⟩ (c_X9_cutOf l D cI cB hM M l1 l3 r11 hq12) (cwV 2 hts (z_gV hG wd_789 wd_791 wd_s29 wd_15 wd_792) rfl rfl rfl q_X9_cutOf ⟨Nat.le_of_ble_eq_true rfl, Nat.le_of_ble_eq_true rfl⟩) hK hP hD hS hA 9 rfl rfl rfl [0, 1, 3] [2] rfl rfl rfl rfl rfl rfl rfl hl.1 (Nat.le_of_ble_eq_true rfl) dX9_added_49 ⟨Nat.zero_le _, Nat.zero_le _⟩ rfl (fun H locs hP hD hS => ?_)
          refine lv_iload_n hx hb dX9_added_52 rfl (lv_at hl 2 rfl) ?_
          refine lv_icmp_ne (tgt := 61) hx hb dX9_added_53 (by decide) (fun c_13 => ?_) (fun c_13 => ?_)
          · replace hf := zif c_13 hf
            obtain ⟨x14, e_x14, hf⟩ := zv_some hf
            refine lv_iinc (v := x14) (lv' := [(3, .int x14), (0, .ref (hM 0)), (1, .int l1), (2, .int l2)]) hx hb dX9_added_61 hl (k := 3) rfl (by rw [e_x14]; rfl) (by decide) rfl (fun ls hl => ?_)
            refine lv_goto (tgt := 24) hx hb dX9_added_64 (by decide) ?_
            exact ih _ hf _ _ _ hP hD hS (lv_sub hl [1, 2, 3, 0] rfl)
          · replace hf := zit c_13 hf
            refine lv_bipush (v := 100) hx hb dX9_added_56 (by decide) ?_
            refine lv_iload_n hx hb dX9_added_58 rfl (lv_at hl 3 rfl) ?_
            refine lv_iadd hx hb dX9_added_59 ?_
            cases hf
            exact zretI hx hb hr hlocks hK hP hD hS dX9_added_60
        · replace hf := zit c_10 hf
          refine lv_bipush (v := 100) hx hb dX9_added_41 (by decide) ?_
          refine lv_iload_n hx hb dX9_added_43 rfl (lv_at hl 3 rfl) ?_
          refine lv_isub hx hb dX9_added_44 ?_
          cases hf
          exact zretI hx hb hr hlocks hK hP hD hS dX9_added_45
  unfold f_X9_added at hf
  refine lv_aload_n hx hb dX9_added_0 rfl (lv_at hl 0 rfl) ?_
  refine lv_iload_n hx hb dX9_added_1 rfl (lv_at hl 1 rfl) ?_
  obtain ⟨r1, hq2, hf⟩ := zb1_some hf
  refine zcallVi (ws2 := [k9_0 cI cB hM M, k9_4 cI cB hM M, k9_5 cI cB hM M, k9_6 cI cB hM M]) (rest := []) ⟨hx, hb, hml, hown, hts⟩ (c_X9_isPart l D cI cB hM M a1 r1 hq2) (cwV 1 hts (z_gV hG wd_769 wd_771 wd_s26 wd_15 wd_772) rfl rfl rfl q_X9_isPart ⟨Nat.le_of_ble_eq_true rfl, Nat.le_of_ble_eq_true rfl⟩) hK hP hD hS hA 9 rfl rfl rfl [0, 2] [1, 3] rfl rfl rfl rfl rfl rfl rfl hl.1 (Nat.le_of_ble_eq_true rfl) dX9_added_2 ⟨Nat.zero_le _, Nat.zero_le _⟩ rfl (fun H locs hP hD hS => ?_)
  refine lv_if_eq (tgt := 20) hx hb dX9_added_5 (by decide) (fun c_3 => ?_) (fun c_3 => ?_)
  · replace hf := zit c_3 hf
    refine lv_iconst (v := (-1)) hx hb dX9_added_20 (by decide) ?_
    cases hf
    exact zretI hx hb hr hlocks hK hP hD hS dX9_added_21
  · replace hf := zif c_3 hf
    refine lv_iload_n hx hb dX9_added_8 rfl (lv_at hl 2 rfl) ?_
    refine lv_i2l hx hb dX9_added_9 rfl ?_
    refine lv_lconst (v := 1) hx hb dX9_added_10 (by decide) ?_
    refine lv_ldc2 (v := 299) hx hb hown (hts _ (List.mem_cons_of_mem _ wd_837)) dX9_added_11 ?_
    obtain ⟨r4, hq5, hf⟩ := zb1_some hf
    refine zcallSi (rest := []) ⟨hx, hb, hml, hown, hts⟩ (c_X9_in l D cI cB (a2.toInt64) 1 299 r4 hq5) (z_cwS 3 hts (z_gS hG wd_727 wd_728 wd_15 wd_729) rfl rfl rfl q_X9_in ⟨Nat.le_of_ble_eq_true rfl, Nat.le_of_ble_eq_true rfl⟩) hK hP hD hS hA rfl hl.1 (Nat.le_of_ble_eq_true rfl) dX9_added_14 ⟨Nat.zero_le _, Nat.zero_le _⟩ rfl (fun H locs hP hD hS => ?_)
    refine lv_if_ne (tgt := 22) hx hb dX9_added_17 (by decide) (fun c_6 => ?_) (fun c_6 => ?_)
    · replace hf := zif c_6 hf
      refine lv_iconst (v := 0) hx hb dX9_added_22 (by decide) ?_
      refine lv_istore_n (lv' := [(3, .int 0), (0, .ref (hM 0)), (1, .int a1), (2, .int a2)]) hx hb dX9_added_23 rfl hl (by decide) rfl (fun ls hl => ?_)
      exact L24 _ _ _ _ _ hf _ _ _ hP hD hS (lv_sub hl [1, 2, 3, 0] rfl)
    · replace hf := zit c_6 hf
      refine lv_iconst (v := (-1)) hx hb dX9_added_20 (by decide) ?_
      cases hf
      exact zretI hx hb hr hlocks hK hP hD hS dX9_added_21
def L_X9_nextBolts_17 (M : zMm) (l1 : Int32) : Nat → Int32 → Int32 → Option (Int32 × Int32)
  | 0, _, _ => none
  | n + 1, l2, l3 => if l1 ≤ l3 then some (l2, l3) else zl 7 (M 17) l3 (fun v4 => zb1 (if v4 ≤ l2 then some l2 else zl 7 (M 17) l3 (fun v9 => some v9)) (fun (y6 : Int32) => zv (l3 + 1) (fun (x10 : Int32) => L_X9_nextBolts_17 M l1 n y6 x10)))
def L_X9_nextBolts_9  : Nat → Int32 → zMm → Option (Int32 × zMm)
  | 0, _, _ => none
  | n + 1, l1, M => if l1 ≤ 0 then some ((0 : Int32), M) else zb2 (L_X9_nextBolts_17 M l1 100000 0 0) (fun (x3 : Int32) (x4 : Int32) => zl 7 (M 17) l1 (fun v6 => if x3 < v6 then zw 7 M 17 l1 0 (fun M_8 => zv (l1 + (-1)) (fun (x9 : Int32) => L_X9_nextBolts_9  n x9 M_8)) else zl 7 (M 17) l1 (fun v10 => zw 7 M 17 l1 (v10 + 1) (fun M_11 => some ((1 : Int32), M_11)))))
def f_X9_nextBolts (M : zMm) : Option (Int32 × zMm) := zv ((M 6 0) - 1) (fun (x1 : Int32) => L_X9_nextBolts_9 100000 x1 M)
abbrev ww_X9_nextBolts : List Cond := Cond.code yX9_nextBolts cX9_nextBolts 4 (some .boolean) :: wG
theorem q_X9_nextBolts : yX9_nextBolts.cls = RX9 ∧ yX9_nextBolts.cls ≠ "java/lang/invoke/MethodHandle" ∧ yX9_nextBolts.cls ≠ "java/lang/invoke/VarHandle" ∧ (parseMethodDescriptor yX9_nextBolts.desc).map (fun d => d.parameters.length) = some 0 := by decide +kernel
set_option maxHeartbeats 4000000 in
set_option maxRecDepth 100000 in
theorem c_X9_nextBolts (l : Launch) (D : va_G) (cI cB : ClassId) (hM : Nat → Nat) (M : zMm) (r0 : Int32) (M0 : zMm) (hf : f_X9_nextBolts M = some (r0, M0)) : zMi l yX9_nextBolts ww_X9_nextBolts ({ frames := 0, cells := 0, slots := 0, locals := 0 } : Room) D cI cB [.ref (hM 0)] (w9 cI cB hM M) r0 (w9 cI cB hM M0) := by
  refine zofI (cc := cX9_nextBolts) (maxL := 4) (ret := (some .boolean)) (by decide +kernel) rfl (Nat.le_of_ble_eq_true rfl) ?_
  intro p e s m below meth c A ls hx hb hml hr hown hts hlocks hK hP hD hS hA hl
  have hl : lv_has ls 4 [(0, .ref (hM 0))] := hl
  have hown : s.vm.findClass RX9 = some m.cls := hown
  have hG : ∀ w ∈ wG, w ∈ ww_X9_nextBolts := fun w h => List.mem_cons_of_mem _ h
  have hi9 : ∀ w ∈ wsX90, w ∈ ww_X9_nextBolts := fun w h => List.mem_cons_of_mem _ (z_inX9 w h)
  have L17 : ∀ (M : zMm) (l1 : Int32) (n : Nat) (l2 : Int32) (l3 : Int32) (o2 : Int32) (o3 : Int32), L_X9_nextBolts_17 M l1 n l2 l3 = some (o2, o3) → zAt p l e ({ frames := 0, cells := 0, slots := 0, locals := 0 } : Room) s m [.ref (hM 0)].toArray below meth c (MQ below (zQi D cI cB r0 (w9 cI cB hM M0) A) [.ref (hM 0)].toArray s 0 0 A) A D 4 (w9 cI cB hM M) [(0, .ref (hM 0)), (1, .int l1), (2, .int o2), (3, .int o3)] 49 [] → zAt p l e ({ frames := 0, cells := 0, slots := 0, locals := 0 } : Room) s m [.ref (hM 0)].toArray below meth c (MQ below (zQi D cI cB r0 (w9 cI cB hM M0) A) [.ref (hM 0)].toArray s 0 0 A) A D 4 (w9 cI cB hM M) [(0, .ref (hM 0)), (1, .int l1), (2, .int l2), (3, .int l3)] 17 [] := by
    intro M l1 n
    induction n with
    | zero => intro l2 l3 o2 o3 hf; simp [L_X9_nextBolts_17] at hf
    | succ n ih =>
      intro l2 l3 o2 o3 hf hk H locs ls hP hD hS hl
      rw [L_X9_nextBolts_17] at hf
      refine lv_iload_n hx hb dX9_nextBolts_17 rfl (lv_at hl 3 rfl) ?_
      refine lv_iload_n hx hb dX9_nextBolts_18 rfl (lv_at hl 1 rfl) ?_
      refine lv_icmp_ge (tgt := 49) hx hb dX9_nextBolts_19 (by decide) (fun c_3 => ?_) (fun c_3 => ?_)
      · replace hf := zit c_3 hf
        cases hf
        exact hk _ _ _ hP hD hS (lv_sub hl [0, 1, 2, 3] rfl)
      · replace hf := zif c_3 hf
        refine lv_aload_n hx hb dX9_nextBolts_22 rfl (lv_at hl 0 rfl) ?_
        refine va_get (D := D) (ci := 9) (v := .ref (hM 12)) (C := RX9) (T := TX9) (N := 23) hx hb hts hi9 hown hK hP 0 rfl rfl 17 (Nat.le_of_ble_eq_true rfl) (hts _ (List.mem_cons_of_mem _ wd_669)) (fun _ h9 => h9) rfl dX9_nextBolts_23 ?_
        refine lv_iload_n hx hb dX9_nextBolts_26 rfl (lv_at hl 3 rfl) ?_
        obtain ⟨i_v4, v4, e_v4, hf⟩ := zl_some hf
        refine va_iald (n := 7) (f := M 17) (cA := cI) hx hb hK hP 12 0 rfl rfl i_v4 dX9_nextBolts_27 ?_
        refine zt e_v4 ?_
        refine lv_iload_n hx hb dX9_nextBolts_28 rfl (lv_at hl 2 rfl) ?_
        obtain ⟨y6, hq7, hf⟩ := zb1_some hf
        have J8 : zAt p l e ({ frames := 0, cells := 0, slots := 0, locals := 0 } : Room) s m [.ref (hM 0)].toArray below meth c (MQ below (zQi D cI cB r0 (w9 cI cB hM M0) A) [.ref (hM 0)].toArray s 0 0 A) A D 4 (w9 cI cB hM M) [(0, .ref (hM 0)), (1, .int l1), (2, .int l2), (3, .int l3)] 42 [.int y6] := by
          intro H locs ls hP hD hS hl
          refine lv_istore_n (lv' := [(2, .int y6), (0, .ref (hM 0)), (1, .int l1), (3, .int l3)]) hx hb dX9_nextBolts_42 rfl hl (by decide) rfl (fun ls hl => ?_)
          obtain ⟨x10, e_x10, hf⟩ := zv_some hf
          refine lv_iinc (v := x10) (lv' := [(3, .int x10), (2, .int y6), (0, .ref (hM 0)), (1, .int l1)]) hx hb dX9_nextBolts_43 hl (k := 3) rfl (by rw [e_x10]; rfl) (by decide) rfl (fun ls hl => ?_)
          refine lv_goto (tgt := 17) hx hb dX9_nextBolts_46 (by decide) ?_
          exact ih _ _ _ _ hf hk _ _ _ hP hD hS (lv_sub hl [2, 3, 1, 0] rfl)
        replace hf := hq7
        refine lv_icmp_le (tgt := 41) hx hb dX9_nextBolts_29 (by decide) (fun c_5 => ?_) (fun c_5 => ?_)
        · replace hf := zit c_5 hf
          refine lv_iload_n hx hb dX9_nextBolts_41 rfl (lv_at hl 2 rfl) ?_
          cases hf
          exact J8 _ _ _ hP hD hS (lv_sub hl [0, 1, 2, 3] rfl)
        · replace hf := zif c_5 hf
          refine lv_aload_n hx hb dX9_nextBolts_32 rfl (lv_at hl 0 rfl) ?_
          refine va_get (D := D) (ci := 9) (v := .ref (hM 12)) (C := RX9) (T := TX9) (N := 23) hx hb hts hi9 hown hK hP 0 rfl rfl 17 (Nat.le_of_ble_eq_true rfl) (hts _ (List.mem_cons_of_mem _ wd_669)) (fun _ h9 => h9) rfl dX9_nextBolts_33 ?_
          refine lv_iload_n hx hb dX9_nextBolts_36 rfl (lv_at hl 3 rfl) ?_
          obtain ⟨i_v9, v9, e_v9, hf⟩ := zl_some hf
          refine va_iald (n := 7) (f := M 17) (cA := cI) hx hb hK hP 12 0 rfl rfl i_v9 dX9_nextBolts_37 ?_
          refine zt e_v9 ?_
          refine lv_goto (tgt := 42) hx hb dX9_nextBolts_38 (by decide) ?_
          cases hf
          exact J8 _ _ _ hP hD hS (lv_sub hl [0, 1, 2, 3] rfl)
  have L9 : ∀  (n : Nat) (l1 : Int32) (M : zMm), L_X9_nextBolts_9  n l1 M = some (r0, M0) → zAt p l e ({ frames := 0, cells := 0, slots := 0, locals := 0 } : Room) s m [.ref (hM 0)].toArray below meth c (MQ below (zQi D cI cB r0 (w9 cI cB hM M0) A) [.ref (hM 0)].toArray s 0 0 A) A D 4 (w9 cI cB hM M) [(0, .ref (hM 0)), (1, .int l1)] 9 [] := by
    intro n
    induction n with
    | zero => intro l1 M hf; simp [L_X9_nextBolts_9] at hf
    | succ n ih =>
      intro l1 M hf H locs ls hP hD hS hl
      rw [L_X9_nextBolts_9] at hf
      refine lv_iload_n hx hb dX9_nextBolts_9 rfl (lv_at hl 1 rfl) ?_
      refine lv_if_le (tgt := 84) hx hb dX9_nextBolts_10 (by decide) (fun c_2 => ?_) (fun c_2 => ?_)
      · replace hf := zit c_2 hf
        refine lv_iconst (v := 0) hx hb dX9_nextBolts_84 (by decide) ?_
        cases hf
        exact zretB hx hb hr hlocks rfl hK hP hD hS dX9_nextBolts_85
      · replace hf := zif c_2 hf
        refine lv_iconst (v := 0) hx hb dX9_nextBolts_13 (by decide) ?_
        refine lv_istore_n (lv' := [(2, .int 0), (0, .ref (hM 0)), (1, .int l1)]) hx hb dX9_nextBolts_14 rfl hl (by decide) rfl (fun ls hl => ?_)
        refine lv_iconst (v := 0) hx hb dX9_nextBolts_15 (by decide) ?_
        refine lv_istore_n (lv' := [(3, .int 0), (2, .int 0), (0, .ref (hM 0)), (1, .int l1)]) hx hb dX9_nextBolts_16 rfl hl (by decide) rfl (fun ls hl => ?_)
        obtain ⟨x3, x4, hq5, hf⟩ := zb2_some hf
        refine L17 _ _ _ _ _ _ _ hq5 ?_ _ _ _ hP hD hS (lv_sub hl [2, 3, 1, 0] rfl)
        intro H locs ls hP hD hS hl
        refine lv_aload_n hx hb dX9_nextBolts_49 rfl (lv_at hl 0 rfl) ?_
        refine va_get (D := D) (ci := 9) (v := .ref (hM 12)) (C := RX9) (T := TX9) (N := 23) hx hb hts hi9 hown hK hP 0 rfl rfl 17 (Nat.le_of_ble_eq_true rfl) (hts _ (List.mem_cons_of_mem _ wd_669)) (fun _ h9 => h9) rfl dX9_nextBolts_50 ?_
        refine lv_iload_n hx hb dX9_nextBolts_53 rfl (lv_at hl 1 rfl) ?_
        obtain ⟨i_v6, v6, e_v6, hf⟩ := zl_some hf
        refine va_iald (n := 7) (f := M 17) (cA := cI) hx hb hK hP 12 0 rfl rfl i_v6 dX9_nextBolts_54 ?_
        refine zt e_v6 ?_
        refine lv_iload_n hx hb dX9_nextBolts_55 rfl (lv_at hl 2 rfl) ?_
        refine lv_icmp_gt (tgt := 71) hx hb dX9_nextBolts_56 (by decide) (fun c_7 => ?_) (fun c_7 => ?_)
        · replace hf := zit c_7 hf
          refine lv_aload_n hx hb dX9_nextBolts_71 rfl (lv_at hl 0 rfl) ?_
          refine va_get (D := D) (ci := 9) (v := .ref (hM 12)) (C := RX9) (T := TX9) (N := 23) hx hb hts hi9 hown hK hP 0 rfl rfl 17 (Nat.le_of_ble_eq_true rfl) (hts _ (List.mem_cons_of_mem _ wd_669)) (fun _ h9 => h9) rfl dX9_nextBolts_72 ?_
          refine lv_iload_n hx hb dX9_nextBolts_75 rfl (lv_at hl 1 rfl) ?_
          refine lv_iconst (v := 0) hx hb dX9_nextBolts_76 (by decide) ?_
          obtain ⟨i_M_8, M_8, e_M_8, hf⟩ := zw_some hf
          refine va_iast (n := 7) (f := M 17) (cA := cI) hx hb hK hP hD hS 12 0 rfl rfl i_M_8 dX9_nextBolts_77 (fun H locs hP hD hS => ?_)
          have hP : va_P D vwCl (w9 cI cB hM (zs M 17 (upd (M 17) l1.toNatClampNeg 0))) H := hP
          have hD : va_D A (w9 cI cB hM (zs M 17 (upd (M 17) l1.toNatClampNeg 0))) := hD
          rw [← e_M_8] at hP hD
          obtain ⟨x9, e_x9, hf⟩ := zv_some hf
          refine lv_iinc (v := x9) (lv' := [(1, .int x9), (0, .ref (hM 0)), (2, .int x3), (3, .int x4)]) hx hb dX9_nextBolts_78 hl (k := 1) rfl (by rw [e_x9]; rfl) (by decide) rfl (fun ls hl => ?_)
          refine lv_goto (tgt := 9) hx hb dX9_nextBolts_81 (by decide) ?_
          exact ih _ _ hf _ _ _ hP hD hS (lv_sub hl [1, 0] rfl)
        · replace hf := zif c_7 hf
          refine lv_aload_n hx hb dX9_nextBolts_59 rfl (lv_at hl 0 rfl) ?_
          refine va_get (D := D) (ci := 9) (v := .ref (hM 12)) (C := RX9) (T := TX9) (N := 23) hx hb hts hi9 hown hK hP 0 rfl rfl 17 (Nat.le_of_ble_eq_true rfl) (hts _ (List.mem_cons_of_mem _ wd_669)) (fun _ h9 => h9) rfl dX9_nextBolts_60 ?_
          refine lv_iload_n hx hb dX9_nextBolts_63 rfl (lv_at hl 1 rfl) ?_
          refine lv_dup2_11 hx hb dX9_nextBolts_64 rfl rfl ?_
          obtain ⟨i_v10, v10, e_v10, hf⟩ := zl_some hf
          refine va_iald (n := 7) (f := M 17) (cA := cI) hx hb hK hP 12 0 rfl rfl i_v10 dX9_nextBolts_65 ?_
          refine zt e_v10 ?_
          refine lv_iconst (v := 1) hx hb dX9_nextBolts_66 (by decide) ?_
          refine lv_iadd hx hb dX9_nextBolts_67 ?_
          obtain ⟨i_M_11, M_11, e_M_11, hf⟩ := zw_some hf
          refine va_iast (n := 7) (f := M 17) (cA := cI) hx hb hK hP hD hS 12 0 rfl rfl i_M_11 dX9_nextBolts_68 (fun H locs hP hD hS => ?_)
          have hP : va_P D vwCl (w9 cI cB hM (zs M 17 (upd (M 17) l1.toNatClampNeg (v10 + 1)))) H := hP
          have hD : va_D A (w9 cI cB hM (zs M 17 (upd (M 17) l1.toNatClampNeg (v10 + 1)))) := hD
          rw [← e_M_11] at hP hD
          refine lv_iconst (v := 1) hx hb dX9_nextBolts_69 (by decide) ?_
          cases hf
          exact zretB hx hb hr hlocks rfl hK hP hD hS dX9_nextBolts_70
  unfold f_X9_nextBolts at hf
  refine lv_aload_n hx hb dX9_nextBolts_0 rfl (lv_at hl 0 rfl) ?_
  refine va_get (D := D) (ci := 9) (v := .ref (hM 5)) (C := RX9) (T := TX9) (N := 23) hx hb hts hi9 hown hK hP 0 rfl rfl 6 (Nat.le_of_ble_eq_true rfl) (hts _ (List.mem_cons_of_mem _ wd_658)) (fun _ h9 => h9) rfl dX9_nextBolts_1 ?_
  refine lv_iconst (v := 0) hx hb dX9_nextBolts_4 (by decide) ?_
  refine va_iald (n := 2) (f := M 6) (cA := cI) hx hb hK hP 5 0 rfl rfl (z_in (by decide)) dX9_nextBolts_5 ?_
  refine z_tc (k := 0) (by decide) ?_
  refine lv_iconst (v := 1) hx hb dX9_nextBolts_6 (by decide) ?_
  refine lv_isub hx hb dX9_nextBolts_7 ?_
  obtain ⟨x1, e_x1, hf⟩ := zv_some hf
  refine zt e_x1 ?_
  refine lv_istore_n (lv' := [(1, .int x1), (0, .ref (hM 0))]) hx hb dX9_nextBolts_8 rfl hl (by decide) rfl (fun ls hl => ?_)
  exact L9 _ _ _ hf _ _ _ hP hD hS (lv_sub hl [1, 0] rfl)
def L_X9_many_4 (l1 : Int32) : Nat → Int32 → zMm → Option (Int32 × zMm)
  | 0, _, _ => none
  | n + 1, l2, M => if (7 : Int32) ≤ l2 then some (l2, M) else zw 7 M 20 l2 0 (fun M_2 => zv (l2 + 1) (fun (x3 : Int32) => L_X9_many_4 l1 n x3 M_2))
def L_X9_many_25  : Nat → Int32 → Int32 → zMm → Option (Int32 × Int32 × zMm)
  | 0, _, _, _ => none
  | n + 1, l1, l2, M => if (M 6 0) ≤ l2 then some (l1, l2, M) else zl 7 (M 17) l2 (fun v8 => zl 7 (M 20) v8 (fun v9 => zl 7 (M 19) l2 (fun v10 => zw 7 M 20 v8 (v9 + v10) (fun M_11 => zl 7 (M_11 17) l2 (fun v12 => zb1 (if (v12 + 1) ≤ l1 then some l1 else zl 7 (M_11 17) l2 (fun v17 => some (v17 + 1))) (fun (y14 : Int32) => zl 7 (M_11 17) l2 (fun v18 => zl 7 (M_11 20) v18 (fun v19 => zb1 (if v19 ≤ (M_11 3 2) then some y14 else some (99 : Int32)) (fun (y21 : Int32) => zv (l2 + 1) (fun (x24 : Int32) => L_X9_many_25  n y21 x24 M_11))))))))))
def f_X9_many (M : zMm) : Option (Int32 × zMm) := zb2 (L_X9_many_4 0 100000 0 M) (fun (x4 : Int32) (M_5 : zMm) => zb3 (L_X9_many_25 100000 0 0 M_5) (fun (x25 : Int32) (x26 : Int32) (M_27 : zMm) => some (x25, M_27)))
abbrev ww_X9_many : List Cond := Cond.code yX9_many cX9_many 3 (some .int) :: wG
theorem q_X9_many : yX9_many.cls = RX9 ∧ yX9_many.cls ≠ "java/lang/invoke/MethodHandle" ∧ yX9_many.cls ≠ "java/lang/invoke/VarHandle" ∧ (parseMethodDescriptor yX9_many.desc).map (fun d => d.parameters.length) = some 0 := by decide +kernel
set_option maxHeartbeats 4000000 in
set_option maxRecDepth 100000 in
theorem c_X9_many (l : Launch) (D : va_G) (cI cB : ClassId) (hM : Nat → Nat) (M : zMm) (r0 : Int32) (M0 : zMm) (hf : f_X9_many M = some (r0, M0)) : zMi l yX9_many ww_X9_many ({ frames := 0, cells := 0, slots := 0, locals := 0 } : Room) D cI cB [.ref (hM 0)] (w9 cI cB hM M) r0 (w9 cI cB hM M0) := by
  refine zofI (cc := cX9_many) (maxL := 3) (ret := (some .int)) (by decide +kernel) rfl (Nat.le_of_ble_eq_true rfl) ?_
  intro p e s m below meth c A ls hx hb hml hr hown hts hlocks hK hP hD hS hA hl
  have hl : lv_has ls 3 [(0, .ref (hM 0))] := hl
  have hown : s.vm.findClass RX9 = some m.cls := hown
  have hG : ∀ w ∈ wG, w ∈ ww_X9_many := fun w h => List.mem_cons_of_mem _ h
  have hi9 : ∀ w ∈ wsX90, w ∈ ww_X9_many := fun w h => List.mem_cons_of_mem _ (z_inX9 w h)
  have L25 : ∀  (n : Nat) (l1 : Int32) (l2 : Int32) (M : zMm) (o1 : Int32) (o2 : Int32) (oM : zMm), L_X9_many_25  n l1 l2 M = some (o1, o2, oM) → zAt p l e ({ frames := 0, cells := 0, slots := 0, locals := 0 } : Room) s m [.ref (hM 0)].toArray below meth c (MQ below (zQi D cI cB r0 (w9 cI cB hM M0) A) [.ref (hM 0)].toArray s 0 0 A) A D 3 (w9 cI cB hM oM) [(0, .ref (hM 0)), (1, .int o1), (2, .int o2)] 113 [] → zAt p l e ({ frames := 0, cells := 0, slots := 0, locals := 0 } : Room) s m [.ref (hM 0)].toArray below meth c (MQ below (zQi D cI cB r0 (w9 cI cB hM M0) A) [.ref (hM 0)].toArray s 0 0 A) A D 3 (w9 cI cB hM M) [(0, .ref (hM 0)), (1, .int l1), (2, .int l2)] 25 [] := by
    intro n
    induction n with
    | zero => intro l1 l2 M o1 o2 oM hf; simp [L_X9_many_25] at hf
    | succ n ih =>
      intro l1 l2 M o1 o2 oM hf hk H locs ls hP hD hS hl
      rw [L_X9_many_25] at hf
      refine lv_iload_n hx hb dX9_many_25 rfl (lv_at hl 2 rfl) ?_
      refine lv_aload_n hx hb dX9_many_26 rfl (lv_at hl 0 rfl) ?_
      refine va_get (D := D) (ci := 9) (v := .ref (hM 5)) (C := RX9) (T := TX9) (N := 23) hx hb hts hi9 hown hK hP 0 rfl rfl 6 (Nat.le_of_ble_eq_true rfl) (hts _ (List.mem_cons_of_mem _ wd_658)) (fun _ h9 => h9) rfl dX9_many_27 ?_
      refine lv_iconst (v := 0) hx hb dX9_many_30 (by decide) ?_
      refine va_iald (n := 2) (f := M 6) (cA := cI) hx hb hK hP 5 0 rfl rfl (z_in (by decide)) dX9_many_31 ?_
      refine z_tc (k := 0) (by decide) ?_
      refine lv_icmp_ge (tgt := 113) hx hb dX9_many_32 (by decide) (fun c_7 => ?_) (fun c_7 => ?_)
      · replace hf := zit c_7 hf
        cases hf
        exact hk _ _ _ hP hD hS (lv_sub hl [0, 1, 2] rfl)
      · replace hf := zif c_7 hf
        refine lv_aload_n hx hb dX9_many_35 rfl (lv_at hl 0 rfl) ?_
        refine va_get (D := D) (ci := 9) (v := .ref (hM 15)) (C := RX9) (T := TX9) (N := 23) hx hb hts hi9 hown hK hP 0 rfl rfl 20 (Nat.le_of_ble_eq_true rfl) (hts _ (List.mem_cons_of_mem _ wd_672)) (fun _ h9 => h9) rfl dX9_many_36 ?_
        refine lv_aload_n hx hb dX9_many_39 rfl (lv_at hl 0 rfl) ?_
        refine va_get (D := D) (ci := 9) (v := .ref (hM 12)) (C := RX9) (T := TX9) (N := 23) hx hb hts hi9 hown hK hP 0 rfl rfl 17 (Nat.le_of_ble_eq_true rfl) (hts _ (List.mem_cons_of_mem _ wd_669)) (fun _ h9 => h9) rfl dX9_many_40 ?_
        refine lv_iload_n hx hb dX9_many_43 rfl (lv_at hl 2 rfl) ?_
        obtain ⟨i_v8, v8, e_v8, hf⟩ := zl_some hf
        refine va_iald (n := 7) (f := M 17) (cA := cI) hx hb hK hP 12 0 rfl rfl i_v8 dX9_many_44 ?_
        refine zt e_v8 ?_
        refine lv_dup2_11 hx hb dX9_many_45 rfl rfl ?_
        obtain ⟨i_v9, v9, e_v9, hf⟩ := zl_some hf
        refine va_iald (n := 7) (f := M 20) (cA := cI) hx hb hK hP 15 0 rfl rfl i_v9 dX9_many_46 ?_
        refine zt e_v9 ?_
        refine lv_aload_n hx hb dX9_many_47 rfl (lv_at hl 0 rfl) ?_
        refine va_get (D := D) (ci := 9) (v := .ref (hM 14)) (C := RX9) (T := TX9) (N := 23) hx hb hts hi9 hown hK hP 0 rfl rfl 19 (Nat.le_of_ble_eq_true rfl) (hts _ (List.mem_cons_of_mem _ wd_671)) (fun _ h9 => h9) rfl dX9_many_48 ?_
        refine lv_iload_n hx hb dX9_many_51 rfl (lv_at hl 2 rfl) ?_
        obtain ⟨i_v10, v10, e_v10, hf⟩ := zl_some hf
        refine va_iald (n := 7) (f := M 19) (cA := cI) hx hb hK hP 14 0 rfl rfl i_v10 dX9_many_52 ?_
        refine zt e_v10 ?_
        refine lv_iadd hx hb dX9_many_53 ?_
        obtain ⟨i_M_11, M_11, e_M_11, hf⟩ := zw_some hf
        refine va_iast (n := 7) (f := M 20) (cA := cI) hx hb hK hP hD hS 15 0 rfl rfl i_M_11 dX9_many_54 (fun H locs hP hD hS => ?_)
        have hP : va_P D vwCl (w9 cI cB hM (zs M 20 (upd (M 20) v8.toNatClampNeg (v9 + v10)))) H := hP
        have hD : va_D A (w9 cI cB hM (zs M 20 (upd (M 20) v8.toNatClampNeg (v9 + v10)))) := hD
        rw [← e_M_11] at hP hD
        refine lv_aload_n hx hb dX9_many_55 rfl (lv_at hl 0 rfl) ?_
        refine va_get (D := D) (ci := 9) (v := .ref (hM 12)) (C := RX9) (T := TX9) (N := 23) hx hb hts hi9 hown hK hP 0 rfl rfl 17 (Nat.le_of_ble_eq_true rfl) (hts _ (List.mem_cons_of_mem _ wd_669)) (fun _ h9 => h9) rfl dX9_many_56 ?_
        refine lv_iload_n hx hb dX9_many_59 rfl (lv_at hl 2 rfl) ?_
        obtain ⟨i_v12, v12, e_v12, hf⟩ := zl_some hf
        refine va_iald (n := 7) (f := M_11 17) (cA := cI) hx hb hK hP 12 0 rfl rfl i_v12 dX9_many_60 ?_
        refine zt e_v12 ?_
        refine lv_iconst (v := 1) hx hb dX9_many_61 (by decide) ?_
        refine lv_iadd hx hb dX9_many_62 ?_
        refine lv_iload_n hx hb dX9_many_63 rfl (lv_at hl 1 rfl) ?_
        obtain ⟨y14, hq15, hf⟩ := zb1_some hf
        have J16 : zAt p l e ({ frames := 0, cells := 0, slots := 0, locals := 0 } : Room) s m [.ref (hM 0)].toArray below meth c (MQ below (zQi D cI cB r0 (w9 cI cB hM M0) A) [.ref (hM 0)].toArray s 0 0 A) A D 3 (w9 cI cB hM M_11) [(0, .ref (hM 0)), (1, .int l1), (2, .int l2)] 79 [.int y14] := by
          intro H locs ls hP hD hS hl
          refine lv_istore_n (lv' := [(1, .int y14), (0, .ref (hM 0)), (2, .int l2)]) hx hb dX9_many_79 rfl hl (by decide) rfl (fun ls hl => ?_)
          refine lv_aload_n hx hb dX9_many_80 rfl (lv_at hl 1 rfl) ?_
          refine va_get (D := D) (ci := 9) (v := .ref (hM 15)) (C := RX9) (T := TX9) (N := 23) hx hb hts hi9 hown hK hP 0 rfl rfl 20 (Nat.le_of_ble_eq_true rfl) (hts _ (List.mem_cons_of_mem _ wd_672)) (fun _ h9 => h9) rfl dX9_many_81 ?_
          refine lv_aload_n hx hb dX9_many_84 rfl (lv_at hl 1 rfl) ?_
          refine va_get (D := D) (ci := 9) (v := .ref (hM 12)) (C := RX9) (T := TX9) (N := 23) hx hb hts hi9 hown hK hP 0 rfl rfl 17 (Nat.le_of_ble_eq_true rfl) (hts _ (List.mem_cons_of_mem _ wd_669)) (fun _ h9 => h9) rfl dX9_many_85 ?_
          refine lv_iload_n hx hb dX9_many_88 rfl (lv_at hl 2 rfl) ?_
          obtain ⟨i_v18, v18, e_v18, hf⟩ := zl_some hf
          refine va_iald (n := 7) (f := M_11 17) (cA := cI) hx hb hK hP 12 0 rfl rfl i_v18 dX9_many_89 ?_
          refine zt e_v18 ?_
          obtain ⟨i_v19, v19, e_v19, hf⟩ := zl_some hf
          refine va_iald (n := 7) (f := M_11 20) (cA := cI) hx hb hK hP 15 0 rfl rfl i_v19 dX9_many_90 ?_
          refine zt e_v19 ?_
          refine lv_aload_n hx hb dX9_many_91 rfl (lv_at hl 1 rfl) ?_
          refine va_get (D := D) (ci := 9) (v := .ref (hM 2)) (C := RX9) (T := TX9) (N := 23) hx hb hts hi9 hown hK hP 0 rfl rfl 3 (Nat.le_of_ble_eq_true rfl) (hts _ (List.mem_cons_of_mem _ wd_655)) (fun _ h9 => h9) rfl dX9_many_92 ?_
          refine lv_iconst (v := 2) hx hb dX9_many_95 (by decide) ?_
          refine va_iald (n := 6) (f := M_11 3) (cA := cI) hx hb hK hP 2 0 rfl rfl (z_in (by decide)) dX9_many_96 ?_
          refine z_tc (k := 2) (by decide) ?_
          obtain ⟨y21, hq22, hf⟩ := zb1_some hf
          have J23 : zAt p l e ({ frames := 0, cells := 0, slots := 0, locals := 0 } : Room) s m [.ref (hM 0)].toArray below meth c (MQ below (zQi D cI cB r0 (w9 cI cB hM M0) A) [.ref (hM 0)].toArray s 0 0 A) A D 3 (w9 cI cB hM M_11) [(0, .ref (hM 0)), (1, .int y14), (2, .int l2)] 106 [.int y21] := by
            intro H locs ls hP hD hS hl
            refine lv_istore_n (lv' := [(1, .int y21), (0, .ref (hM 0)), (2, .int l2)]) hx hb dX9_many_106 rfl hl (by decide) rfl (fun ls hl => ?_)
            obtain ⟨x24, e_x24, hf⟩ := zv_some hf
            refine lv_iinc (v := x24) (lv' := [(2, .int x24), (1, .int y21), (0, .ref (hM 0))]) hx hb dX9_many_107 hl (k := 2) rfl (by rw [e_x24]; rfl) (by decide) rfl (fun ls hl => ?_)
            refine lv_goto (tgt := 25) hx hb dX9_many_110 (by decide) ?_
            exact ih _ _ _ _ _ _ hf hk _ _ _ hP hD hS (lv_sub hl [2, 1, 0] rfl)
          replace hf := hq22
          refine lv_icmp_le (tgt := 105) hx hb dX9_many_97 (by decide) (fun c_20 => ?_) (fun c_20 => ?_)
          · replace hf := zit c_20 hf
            refine lv_iload_n hx hb dX9_many_105 rfl (lv_at hl 0 rfl) ?_
            cases hf
            exact J23 _ _ _ hP hD hS (lv_sub hl [1, 0, 2] rfl)
          · replace hf := zif c_20 hf
            refine lv_bipush (v := 99) hx hb dX9_many_100 (by decide) ?_
            refine lv_goto (tgt := 106) hx hb dX9_many_102 (by decide) ?_
            cases hf
            exact J23 _ _ _ hP hD hS (lv_sub hl [1, 0, 2] rfl)
        replace hf := hq15
        refine lv_icmp_le (tgt := 78) hx hb dX9_many_64 (by decide) (fun c_13 => ?_) (fun c_13 => ?_)
        · replace hf := zit c_13 hf
          refine lv_iload_n hx hb dX9_many_78 rfl (lv_at hl 1 rfl) ?_
          cases hf
          exact J16 _ _ _ hP hD hS (lv_sub hl [0, 1, 2] rfl)
        · replace hf := zif c_13 hf
          refine lv_aload_n hx hb dX9_many_67 rfl (lv_at hl 0 rfl) ?_
          refine va_get (D := D) (ci := 9) (v := .ref (hM 12)) (C := RX9) (T := TX9) (N := 23) hx hb hts hi9 hown hK hP 0 rfl rfl 17 (Nat.le_of_ble_eq_true rfl) (hts _ (List.mem_cons_of_mem _ wd_669)) (fun _ h9 => h9) rfl dX9_many_68 ?_
          refine lv_iload_n hx hb dX9_many_71 rfl (lv_at hl 2 rfl) ?_
          obtain ⟨i_v17, v17, e_v17, hf⟩ := zl_some hf
          refine va_iald (n := 7) (f := M_11 17) (cA := cI) hx hb hK hP 12 0 rfl rfl i_v17 dX9_many_72 ?_
          refine zt e_v17 ?_
          refine lv_iconst (v := 1) hx hb dX9_many_73 (by decide) ?_
          refine lv_iadd hx hb dX9_many_74 ?_
          refine lv_goto (tgt := 79) hx hb dX9_many_75 (by decide) ?_
          cases hf
          exact J16 _ _ _ hP hD hS (lv_sub hl [0, 1, 2] rfl)
  have L4 : ∀ (l1 : Int32) (n : Nat) (l2 : Int32) (M : zMm) (o2 : Int32) (oM : zMm), L_X9_many_4 l1 n l2 M = some (o2, oM) → zAt p l e ({ frames := 0, cells := 0, slots := 0, locals := 0 } : Room) s m [.ref (hM 0)].toArray below meth c (MQ below (zQi D cI cB r0 (w9 cI cB hM M0) A) [.ref (hM 0)].toArray s 0 0 A) A D 3 (w9 cI cB hM oM) [(0, .ref (hM 0)), (1, .int l1), (2, .int o2)] 23 [] → zAt p l e ({ frames := 0, cells := 0, slots := 0, locals := 0 } : Room) s m [.ref (hM 0)].toArray below meth c (MQ below (zQi D cI cB r0 (w9 cI cB hM M0) A) [.ref (hM 0)].toArray s 0 0 A) A D 3 (w9 cI cB hM M) [(0, .ref (hM 0)), (1, .int l1), (2, .int l2)] 4 [] := by
    intro l1 n
    induction n with
    | zero => intro l2 M o2 oM hf; simp [L_X9_many_4] at hf
    | succ n ih =>
      intro l2 M o2 oM hf hk H locs ls hP hD hS hl
      rw [L_X9_many_4] at hf
      refine lv_iload_n hx hb dX9_many_4 rfl (lv_at hl 2 rfl) ?_
      refine lv_bipush (v := 7) hx hb dX9_many_5 (by decide) ?_
      refine lv_icmp_ge (tgt := 23) hx hb dX9_many_7 (by decide) (fun c_1 => ?_) (fun c_1 => ?_)
      · replace hf := zit c_1 hf
        cases hf
        exact hk _ _ _ hP hD hS (lv_sub hl [0, 1, 2] rfl)
      · replace hf := zif c_1 hf
        refine lv_aload_n hx hb dX9_many_10 rfl (lv_at hl 0 rfl) ?_
        refine va_get (D := D) (ci := 9) (v := .ref (hM 15)) (C := RX9) (T := TX9) (N := 23) hx hb hts hi9 hown hK hP 0 rfl rfl 20 (Nat.le_of_ble_eq_true rfl) (hts _ (List.mem_cons_of_mem _ wd_672)) (fun _ h9 => h9) rfl dX9_many_11 ?_
        refine lv_iload_n hx hb dX9_many_14 rfl (lv_at hl 2 rfl) ?_
        refine lv_iconst (v := 0) hx hb dX9_many_15 (by decide) ?_
        obtain ⟨i_M_2, M_2, e_M_2, hf⟩ := zw_some hf
        refine va_iast (n := 7) (f := M 20) (cA := cI) hx hb hK hP hD hS 15 0 rfl rfl i_M_2 dX9_many_16 (fun H locs hP hD hS => ?_)
        have hP : va_P D vwCl (w9 cI cB hM (zs M 20 (upd (M 20) l2.toNatClampNeg 0))) H := hP
        have hD : va_D A (w9 cI cB hM (zs M 20 (upd (M 20) l2.toNatClampNeg 0))) := hD
        rw [← e_M_2] at hP hD
        obtain ⟨x3, e_x3, hf⟩ := zv_some hf
        refine lv_iinc (v := x3) (lv' := [(2, .int x3), (0, .ref (hM 0)), (1, .int l1)]) hx hb dX9_many_17 hl (k := 2) rfl (by rw [e_x3]; rfl) (by decide) rfl (fun ls hl => ?_)
        refine lv_goto (tgt := 4) hx hb dX9_many_20 (by decide) ?_
        exact ih _ _ _ _ hf hk _ _ _ hP hD hS (lv_sub hl [1, 2, 0] rfl)
  unfold f_X9_many at hf
  refine lv_iconst (v := 0) hx hb dX9_many_0 (by decide) ?_
  refine lv_istore_n (lv' := [(1, .int 0), (0, .ref (hM 0))]) hx hb dX9_many_1 rfl hl (by decide) rfl (fun ls hl => ?_)
  refine lv_iconst (v := 0) hx hb dX9_many_2 (by decide) ?_
  refine lv_istore_n (lv' := [(2, .int 0), (1, .int 0), (0, .ref (hM 0))]) hx hb dX9_many_3 rfl hl (by decide) rfl (fun ls hl => ?_)
  obtain ⟨x4, M_5, hq6, hf⟩ := zb2_some hf
  refine L4 _ _ _ _ _ _ hq6 ?_ _ _ _ hP hD hS (lv_sub hl [2, 1, 0] rfl)
  intro H locs ls hP hD hS hl
  refine lv_iconst (v := 0) hx hb dX9_many_23 (by decide) ?_
  refine lv_istore_n (lv' := [(2, .int 0), (0, .ref (hM 0)), (1, .int 0)]) hx hb dX9_many_24 rfl hl (by decide) rfl (fun ls hl => ?_)
  obtain ⟨x25, x26, M_27, hq28, hf⟩ := zb3_some hf
  refine L25 _ _ _ _ _ _ _ hq28 ?_ _ _ _ hP hD hS (lv_sub hl [1, 2, 0] rfl)
  intro H locs ls hP hD hS hl
  refine lv_iload_n hx hb dX9_many_113 rfl (lv_at hl 1 rfl) ?_
  cases hf
  exact zretI hx hb hr hlocks hK hP hD hS dX9_many_114
def L_X9_bolts_28 (l1 : Int32) : Nat → Int32 → zMm → Option (Int32 × zMm)
  | 0, _, _ => none
  | n + 1, l2, M => if (7 : Int32) ≤ l2 then some (l2, M) else zw 7 M 17 l2 0 (fun M_7 => zv (l2 + 1) (fun (x8 : Int32) => L_X9_bolts_28 l1 n x8 M_7))
def L_X9_bolts_74 (l1 : Int32) (l2 : Int32) (l3 : Int32) (l4 : Int32) : Nat → Int32 → zMm → Option (Int32 × zMm)
  | 0, _, _ => none
  | n + 1, l5, M => if (7 : Int32) ≤ l5 then some (l5, M) else zl 7 (M 17) l5 (fun v18 => zw 7 M 18 l5 v18 (fun M_19 => zv (l5 + 1) (fun (x20 : Int32) => L_X9_bolts_74 l1 l2 l3 l4 n x20 M_19)))
def L_X9_bolts_52 (l1 : Int32) : Nat → Int32 → Int32 → zMm → Option (Int32 × Int32 × zMm)
  | 0, _, _, _ => none
  | n + 1, l2, l3, M => if l3 = 0 then some (l2, l3, M) else zb2 (f_X9_many M) (fun (r13 : Int32) (M_14 : zMm) => zb2 (if l2 ≤ r13 then some (M_14, l2) else zb2 (L_X9_bolts_74 l1 r13 l3 r13 100000 0 M_14) (fun (x21 : Int32) (M_22 : zMm) => some (M_22, r13))) (fun (M_17 : zMm) (x18 : Int32) => zb2 (f_X9_nextBolts M_17) (fun (r24 : Int32) (M_25 : zMm) => L_X9_bolts_52 l1 n x18 r24 M_25)))
def f_X9_bolts (M : zMm) (a1 : Int32) : Option (Int32 × zMm) := zb1 (f_X9_in (a1.toInt64) (-1) (((M 6 0) - 1).toInt64)) (fun (r1 : Int32) => if r1 = 0 then some (((-1) : Int32), M) else zb1 (f_X9_lengths M) (fun (M_4 : zMm) => zb2 (L_X9_bolts_28 a1 100000 0 M_4) (fun (x9 : Int32) (M_10 : zMm) => zb3 (L_X9_bolts_52 a1 100000 99 1 M_10) (fun (x27 : Int32) (x28 : Int32) (M_29 : zMm) => if x27 = 99 then some (((-4) : Int32), M_29) else if (0 : Int32) ≤ a1 then zl 7 (M_29 18) a1 (fun v33 => some (v33, M_29)) else some (x27, M_29)))))
abbrev ww_X9_bolts : List Cond := Cond.code yX9_bolts cX9_bolts 6 (some .int) :: wG
theorem q_X9_bolts : yX9_bolts.cls = RX9 ∧ yX9_bolts.cls ≠ "java/lang/invoke/MethodHandle" ∧ yX9_bolts.cls ≠ "java/lang/invoke/VarHandle" ∧ (parseMethodDescriptor yX9_bolts.desc).map (fun d => d.parameters.length) = some 1 := by decide +kernel
set_option maxHeartbeats 4000000 in
set_option maxRecDepth 100000 in
theorem c_X9_bolts (l : Launch) (D : va_G) (cI cB : ClassId) (hM : Nat → Nat) (M : zMm) (a1 : Int32) (r0 : Int32) (M0 : zMm) (hf : f_X9_bolts M a1 = some (r0, M0)) : zMi l yX9_bolts ww_X9_bolts ({ frames := 3, cells := 0, slots := 0, locals := 67 } : Room) D cI cB [.ref (hM 0), .int a1] (w9 cI cB hM M) r0 (w9 cI cB hM M0) := by
  refine zofI (cc := cX9_bolts) (maxL := 6) (ret := (some .int)) (by decide +kernel) rfl (Nat.le_of_ble_eq_true rfl) ?_
  intro p e s m below meth c A ls hx hb hml hr hown hts hlocks hK hP hD hS hA hl
  have hl : lv_has ls 6 [(0, .ref (hM 0)), (1, .int a1)] := hl
  have hown : s.vm.findClass RX9 = some m.cls := hown
  have hG : ∀ w ∈ wG, w ∈ ww_X9_bolts := fun w h => List.mem_cons_of_mem _ h
  have hi9 : ∀ w ∈ wsX90, w ∈ ww_X9_bolts := fun w h => List.mem_cons_of_mem _ (z_inX9 w h)
  have L74 : ∀ (l1 : Int32) (l2 : Int32) (l3 : Int32) (l4 : Int32) (n : Nat) (l5 : Int32) (M : zMm) (o5 : Int32) (oM : zMm), L_X9_bolts_74 l1 l2 l3 l4 n l5 M = some (o5, oM) → zAt p l e ({ frames := 3, cells := 0, slots := 0, locals := 67 } : Room) s m [.ref (hM 0), .int a1].toArray below meth c (MQ below (zQi D cI cB r0 (w9 cI cB hM M0) A) [.ref (hM 0), .int a1].toArray s 0 0 A) A D 6 (w9 cI cB hM oM) [(0, .ref (hM 0)), (1, .int l1), (2, .int l2), (3, .int l3), (4, .int l4), (5, .int o5)] 101 [] → zAt p l e ({ frames := 3, cells := 0, slots := 0, locals := 67 } : Room) s m [.ref (hM 0), .int a1].toArray below meth c (MQ below (zQi D cI cB r0 (w9 cI cB hM M0) A) [.ref (hM 0), .int a1].toArray s 0 0 A) A D 6 (w9 cI cB hM M) [(0, .ref (hM 0)), (1, .int l1), (2, .int l2), (3, .int l3), (4, .int l4), (5, .int l5)] 74 [] := by
    intro l1 l2 l3 l4 n
    induction n with
    | zero => intro l5 M o5 oM hf; simp [L_X9_bolts_74] at hf
    | succ n ih =>
      intro l5 M o5 oM hf hk H locs ls hP hD hS hl
      rw [L_X9_bolts_74] at hf
      refine lv_iload hx hb dX9_bolts_74 (lv_at hl 5 rfl) ?_
      refine lv_bipush (v := 7) hx hb dX9_bolts_76 (by decide) ?_
      refine lv_icmp_ge (tgt := 101) hx hb dX9_bolts_78 (by decide) (fun c_17 => ?_) (fun c_17 => ?_)
      · replace hf := zit c_17 hf
        cases hf
        exact hk _ _ _ hP hD hS (lv_sub hl [0, 1, 2, 3, 4, 5] rfl)
      · replace hf := zif c_17 hf
        refine lv_aload_n hx hb dX9_bolts_81 rfl (lv_at hl 0 rfl) ?_
        refine va_get (D := D) (ci := 9) (v := .ref (hM 13)) (C := RX9) (T := TX9) (N := 23) hx hb hts hi9 hown hK hP 0 rfl rfl 18 (Nat.le_of_ble_eq_true rfl) (hts _ (List.mem_cons_of_mem _ wd_670)) (fun _ h9 => h9) rfl dX9_bolts_82 ?_
        refine lv_iload hx hb dX9_bolts_85 (lv_at hl 5 rfl) ?_
        refine lv_aload_n hx hb dX9_bolts_87 rfl (lv_at hl 0 rfl) ?_
        refine va_get (D := D) (ci := 9) (v := .ref (hM 12)) (C := RX9) (T := TX9) (N := 23) hx hb hts hi9 hown hK hP 0 rfl rfl 17 (Nat.le_of_ble_eq_true rfl) (hts _ (List.mem_cons_of_mem _ wd_669)) (fun _ h9 => h9) rfl dX9_bolts_88 ?_
        refine lv_iload hx hb dX9_bolts_91 (lv_at hl 5 rfl) ?_
        obtain ⟨i_v18, v18, e_v18, hf⟩ := zl_some hf
        refine va_iald (n := 7) (f := M 17) (cA := cI) hx hb hK hP 12 0 rfl rfl i_v18 dX9_bolts_93 ?_
        refine zt e_v18 ?_
        obtain ⟨i_M_19, M_19, e_M_19, hf⟩ := zw_some hf
        refine va_iast (n := 7) (f := M 18) (cA := cI) hx hb hK hP hD hS 13 0 rfl rfl i_M_19 dX9_bolts_94 (fun H locs hP hD hS => ?_)
        have hP : va_P D vwCl (w9 cI cB hM (zs M 18 (upd (M 18) l5.toNatClampNeg v18))) H := hP
        have hD : va_D A (w9 cI cB hM (zs M 18 (upd (M 18) l5.toNatClampNeg v18))) := hD
        rw [← e_M_19] at hP hD
        obtain ⟨x20, e_x20, hf⟩ := zv_some hf
        refine lv_iinc (v := x20) (lv' := [(5, .int x20), (0, .ref (hM 0)), (1, .int l1), (2, .int l2), (3, .int l3), (4, .int l4)]) hx hb dX9_bolts_95 hl (k := 5) rfl (by rw [e_x20]; rfl) (by decide) rfl (fun ls hl => ?_)
        refine lv_goto (tgt := 74) hx hb dX9_bolts_98 (by decide) ?_
        exact ih _ _ _ _ hf hk _ _ _ hP hD hS (lv_sub hl [1, 2, 3, 4, 5, 0] rfl)
  have L52 : ∀ (l1 : Int32) (n : Nat) (l2 : Int32) (l3 : Int32) (M : zMm) (o2 : Int32) (o3 : Int32) (oM : zMm), L_X9_bolts_52 l1 n l2 l3 M = some (o2, o3, oM) → zAt p l e ({ frames := 3, cells := 0, slots := 0, locals := 67 } : Room) s m [.ref (hM 0), .int a1].toArray below meth c (MQ below (zQi D cI cB r0 (w9 cI cB hM M0) A) [.ref (hM 0), .int a1].toArray s 0 0 A) A D 6 (w9 cI cB hM oM) [(0, .ref (hM 0)), (1, .int l1), (2, .int o2), (3, .int o3)] 109 [] → zAt p l e ({ frames := 3, cells := 0, slots := 0, locals := 67 } : Room) s m [.ref (hM 0), .int a1].toArray below meth c (MQ below (zQi D cI cB r0 (w9 cI cB hM M0) A) [.ref (hM 0), .int a1].toArray s 0 0 A) A D 6 (w9 cI cB hM M) [(0, .ref (hM 0)), (1, .int l1), (2, .int l2), (3, .int l3)] 52 [] := by
    intro l1 n
    induction n with
    | zero => intro l2 l3 M o2 o3 oM hf; simp [L_X9_bolts_52] at hf
    | succ n ih =>
      intro l2 l3 M o2 o3 oM hf hk H locs ls hP hD hS hl
      rw [L_X9_bolts_52] at hf
      refine lv_iload_n hx hb dX9_bolts_52 rfl (lv_at hl 3 rfl) ?_
      refine lv_if_eq (tgt := 109) hx hb dX9_bolts_53 (by decide) (fun c_12 => ?_) (fun c_12 => ?_)
      · replace hf := zit c_12 hf
        cases hf
        exact hk _ _ _ hP hD hS (lv_sub hl [0, 1, 2, 3] rfl)
      · replace hf := zif c_12 hf
        refine lv_aload_n hx hb dX9_bolts_56 rfl (lv_at hl 0 rfl) ?_
        obtain ⟨r13, M_14, hq15, hf⟩ := zb2_some hf
        refine zcallVi (ws2 := (w9 cI cB hM M_14)) (rest := []) ⟨hx, hb, hml, hown, hts⟩ (c_X9_many l D cI cB hM M r13 M_14 hq15) (cwV 0 hts (z_gV hG wd_882 wd_884 wd_s38 wd_15 wd_885) rfl rfl rfl q_X9_many ⟨Nat.le_of_ble_eq_true rfl, Nat.le_of_ble_eq_true rfl⟩) hK hP hD hS hA 9 rfl rfl rfl [0, 1, 2, 3, 4, 5, 6, 7, 8, 9, 10, 11, 12, 13, 14, 15, 16, 17] [] rfl rfl rfl rfl rfl rfl rfl hl.1 (Nat.le_of_ble_eq_true rfl) dX9_bolts_57 ⟨Nat.zero_le _, Nat.zero_le _⟩ rfl (fun H locs hP hD hS => ?_)
        refine lv_istore (lv' := [(4, .int r13), (0, .ref (hM 0)), (1, .int l1), (2, .int l2), (3, .int l3)]) hx hb dX9_bolts_60 hl (by decide) rfl (fun ls hl => ?_)
        refine lv_iload hx hb dX9_bolts_62 (lv_at hl 0 rfl) ?_
        refine lv_iload_n hx hb dX9_bolts_64 rfl (lv_at hl 3 rfl) ?_
        obtain ⟨M_17, x18, hq19, hf⟩ := zb2_some hf
        have J20 : zAt p l e ({ frames := 3, cells := 0, slots := 0, locals := 67 } : Room) s m [.ref (hM 0), .int a1].toArray below meth c (MQ below (zQi D cI cB r0 (w9 cI cB hM M0) A) [.ref (hM 0), .int a1].toArray s 0 0 A) A D 6 (w9 cI cB hM M_17) [(0, .ref (hM 0)), (1, .int l1), (2, .int x18), (3, .int l3), (4, .int r13)] 101 [] := by
          intro H locs ls hP hD hS hl
          refine lv_aload_n hx hb dX9_bolts_101 rfl (lv_at hl 0 rfl) ?_
          obtain ⟨r24, M_25, hq26, hf⟩ := zb2_some hf
          refine zcallVi (ws2 := (w9 cI cB hM M_25)) (rest := []) ⟨hx, hb, hml, hown, hts⟩ (c_X9_nextBolts l D cI cB hM M_17 r24 M_25 hq26) (cwV 0 hts (z_gV hG wd_886 wd_888 wd_s39 wd_15 wd_889) rfl rfl rfl q_X9_nextBolts ⟨Nat.le_of_ble_eq_true rfl, Nat.le_of_ble_eq_true rfl⟩) hK hP hD hS hA 9 rfl rfl rfl [0, 1, 2, 3, 4, 5, 6, 7, 8, 9, 10, 11, 12, 13, 14, 15, 16, 17] [] rfl rfl rfl rfl rfl rfl rfl hl.1 (Nat.le_of_ble_eq_true rfl) dX9_bolts_102 ⟨Nat.zero_le _, Nat.zero_le _⟩ rfl (fun H locs hP hD hS => ?_)
          refine lv_istore_n (lv' := [(3, .int r24), (0, .ref (hM 0)), (1, .int l1), (2, .int x18), (4, .int r13)]) hx hb dX9_bolts_105 rfl hl (by decide) rfl (fun ls hl => ?_)
          refine lv_goto (tgt := 52) hx hb dX9_bolts_106 (by decide) ?_
          exact ih _ _ _ _ _ _ hf hk _ _ _ hP hD hS (lv_sub hl [1, 2, 3, 0] rfl)
        replace hf := hq19
        refine lv_icmp_ge (tgt := 101) hx hb dX9_bolts_65 (by decide) (fun c_16 => ?_) (fun c_16 => ?_)
        · replace hf := zit c_16 hf
          cases hf
          exact J20 _ _ _ hP hD hS (lv_sub hl [1, 2, 3, 4, 0] rfl)
        · replace hf := zif c_16 hf
          refine lv_iload hx hb dX9_bolts_68 (lv_at hl 0 rfl) ?_
          refine lv_istore_n (lv' := [(2, .int r13), (4, .int r13), (0, .ref (hM 0)), (1, .int l1), (3, .int l3)]) hx hb dX9_bolts_70 rfl hl (by decide) rfl (fun ls hl => ?_)
          refine lv_iconst (v := 0) hx hb dX9_bolts_71 (by decide) ?_
          refine lv_istore (lv' := [(5, .int 0), (2, .int r13), (4, .int r13), (0, .ref (hM 0)), (1, .int l1), (3, .int l3)]) hx hb dX9_bolts_72 hl (by decide) rfl (fun ls hl => ?_)
          obtain ⟨x21, M_22, hq23, hf⟩ := zb2_some hf
          refine L74 _ _ _ _ _ _ _ _ _ hq23 ?_ _ _ _ hP hD hS (lv_sub hl [3, 4, 1, 5, 2, 0] rfl)
          intro H locs ls hP hD hS hl
          cases hf
          exact J20 _ _ _ hP hD hS (lv_sub hl [0, 1, 2, 3, 4] rfl)
  have L28 : ∀ (l1 : Int32) (n : Nat) (l2 : Int32) (M : zMm) (o2 : Int32) (oM : zMm), L_X9_bolts_28 l1 n l2 M = some (o2, oM) → zAt p l e ({ frames := 3, cells := 0, slots := 0, locals := 67 } : Room) s m [.ref (hM 0), .int a1].toArray below meth c (MQ below (zQi D cI cB r0 (w9 cI cB hM M0) A) [.ref (hM 0), .int a1].toArray s 0 0 A) A D 6 (w9 cI cB hM oM) [(0, .ref (hM 0)), (1, .int l1), (2, .int o2)] 47 [] → zAt p l e ({ frames := 3, cells := 0, slots := 0, locals := 67 } : Room) s m [.ref (hM 0), .int a1].toArray below meth c (MQ below (zQi D cI cB r0 (w9 cI cB hM M0) A) [.ref (hM 0), .int a1].toArray s 0 0 A) A D 6 (w9 cI cB hM M) [(0, .ref (hM 0)), (1, .int l1), (2, .int l2)] 28 [] := by
    intro l1 n
    induction n with
    | zero => intro l2 M o2 oM hf; simp [L_X9_bolts_28] at hf
    | succ n ih =>
      intro l2 M o2 oM hf hk H locs ls hP hD hS hl
      rw [L_X9_bolts_28] at hf
      refine lv_iload_n hx hb dX9_bolts_28 rfl (lv_at hl 2 rfl) ?_
      refine lv_bipush (v := 7) hx hb dX9_bolts_29 (by decide) ?_
      refine lv_icmp_ge (tgt := 47) hx hb dX9_bolts_31 (by decide) (fun c_6 => ?_) (fun c_6 => ?_)
      · replace hf := zit c_6 hf
        cases hf
        exact hk _ _ _ hP hD hS (lv_sub hl [0, 1, 2] rfl)
      · replace hf := zif c_6 hf
        refine lv_aload_n hx hb dX9_bolts_34 rfl (lv_at hl 0 rfl) ?_
        refine va_get (D := D) (ci := 9) (v := .ref (hM 12)) (C := RX9) (T := TX9) (N := 23) hx hb hts hi9 hown hK hP 0 rfl rfl 17 (Nat.le_of_ble_eq_true rfl) (hts _ (List.mem_cons_of_mem _ wd_669)) (fun _ h9 => h9) rfl dX9_bolts_35 ?_
        refine lv_iload_n hx hb dX9_bolts_38 rfl (lv_at hl 2 rfl) ?_
        refine lv_iconst (v := 0) hx hb dX9_bolts_39 (by decide) ?_
        obtain ⟨i_M_7, M_7, e_M_7, hf⟩ := zw_some hf
        refine va_iast (n := 7) (f := M 17) (cA := cI) hx hb hK hP hD hS 12 0 rfl rfl i_M_7 dX9_bolts_40 (fun H locs hP hD hS => ?_)
        have hP : va_P D vwCl (w9 cI cB hM (zs M 17 (upd (M 17) l2.toNatClampNeg 0))) H := hP
        have hD : va_D A (w9 cI cB hM (zs M 17 (upd (M 17) l2.toNatClampNeg 0))) := hD
        rw [← e_M_7] at hP hD
        obtain ⟨x8, e_x8, hf⟩ := zv_some hf
        refine lv_iinc (v := x8) (lv' := [(2, .int x8), (0, .ref (hM 0)), (1, .int l1)]) hx hb dX9_bolts_41 hl (k := 2) rfl (by rw [e_x8]; rfl) (by decide) rfl (fun ls hl => ?_)
        refine lv_goto (tgt := 28) hx hb dX9_bolts_44 (by decide) ?_
        exact ih _ _ _ _ hf hk _ _ _ hP hD hS (lv_sub hl [1, 2, 0] rfl)
  unfold f_X9_bolts at hf
  refine lv_iload_n hx hb dX9_bolts_0 rfl (lv_at hl 1 rfl) ?_
  refine lv_i2l hx hb dX9_bolts_1 rfl ?_
  refine lv_ldc2 (v := (-1)) hx hb hown (hts _ (List.mem_cons_of_mem _ wd_797)) dX9_bolts_2 ?_
  refine lv_aload_n hx hb dX9_bolts_5 rfl (lv_at hl 0 rfl) ?_
  refine va_get (D := D) (ci := 9) (v := .ref (hM 5)) (C := RX9) (T := TX9) (N := 23) hx hb hts hi9 hown hK hP 0 rfl rfl 6 (Nat.le_of_ble_eq_true rfl) (hts _ (List.mem_cons_of_mem _ wd_658)) (fun _ h9 => h9) rfl dX9_bolts_6 ?_
  refine lv_iconst (v := 0) hx hb dX9_bolts_9 (by decide) ?_
  refine va_iald (n := 2) (f := M 6) (cA := cI) hx hb hK hP 5 0 rfl rfl (z_in (by decide)) dX9_bolts_10 ?_
  refine z_tc (k := 0) (by decide) ?_
  refine lv_iconst (v := 1) hx hb dX9_bolts_11 (by decide) ?_
  refine lv_isub hx hb dX9_bolts_12 ?_
  refine lv_i2l hx hb dX9_bolts_13 rfl ?_
  obtain ⟨r1, hq2, hf⟩ := zb1_some hf
  refine zcallSi (rest := []) ⟨hx, hb, hml, hown, hts⟩ (c_X9_in l D cI cB (a1.toInt64) (-1) (((M 6 0) - 1).toInt64) r1 hq2) (z_cwS 3 hts (z_gS hG wd_727 wd_728 wd_15 wd_729) rfl rfl rfl q_X9_in ⟨Nat.le_of_ble_eq_true rfl, Nat.le_of_ble_eq_true rfl⟩) hK hP hD hS hA rfl hl.1 (Nat.le_of_ble_eq_true rfl) dX9_bolts_14 ⟨Nat.zero_le _, Nat.zero_le _⟩ rfl (fun H locs hP hD hS => ?_)
  refine lv_if_ne (tgt := 22) hx hb dX9_bolts_17 (by decide) (fun c_3 => ?_) (fun c_3 => ?_)
  · replace hf := zif c_3 hf
    refine lv_aload_n hx hb dX9_bolts_22 rfl (lv_at hl 0 rfl) ?_
    obtain ⟨M_4, hq5, hf⟩ := zb1_some hf
    refine zcallVv (ws2 := (w9 cI cB hM M_4)) (rest := []) ⟨hx, hb, hml, hown, hts⟩ (c_X9_lengths l D cI cB hM M M_4 hq5) (cwV 0 hts (z_gV hG wd_798 wd_800 wd_s30 wd_15 wd_801) rfl rfl rfl q_X9_lengths ⟨Nat.le_of_ble_eq_true rfl, Nat.le_of_ble_eq_true rfl⟩) hK hP hD hS hA 9 rfl rfl rfl [0, 1, 2, 3, 4, 5, 6, 7, 8, 9, 10, 11, 12, 13, 14, 15, 16, 17] [] rfl rfl rfl rfl rfl rfl rfl hl.1 (Nat.le_of_ble_eq_true rfl) dX9_bolts_23 ⟨Nat.zero_le _, Nat.zero_le _⟩ rfl (fun H locs hP hD hS => ?_)
    refine lv_iconst (v := 0) hx hb dX9_bolts_26 (by decide) ?_
    refine lv_istore_n (lv' := [(2, .int 0), (0, .ref (hM 0)), (1, .int a1)]) hx hb dX9_bolts_27 rfl hl (by decide) rfl (fun ls hl => ?_)
    obtain ⟨x9, M_10, hq11, hf⟩ := zb2_some hf
    refine L28 _ _ _ _ _ _ hq11 ?_ _ _ _ hP hD hS (lv_sub hl [1, 2, 0] rfl)
    intro H locs ls hP hD hS hl
    refine lv_bipush (v := 99) hx hb dX9_bolts_47 (by decide) ?_
    refine lv_istore_n (lv' := [(2, .int 99), (0, .ref (hM 0)), (1, .int a1)]) hx hb dX9_bolts_49 rfl hl (by decide) rfl (fun ls hl => ?_)
    refine lv_iconst (v := 1) hx hb dX9_bolts_50 (by decide) ?_
    refine lv_istore_n (lv' := [(3, .int 1), (2, .int 99), (0, .ref (hM 0)), (1, .int a1)]) hx hb dX9_bolts_51 rfl hl (by decide) rfl (fun ls hl => ?_)
    obtain ⟨x27, x28, M_29, hq30, hf⟩ := zb3_some hf
    refine L52 _ _ _ _ _ _ _ _ hq30 ?_ _ _ _ hP hD hS (lv_sub hl [2, 3, 1, 0] rfl)
    intro H locs ls hP hD hS hl
    refine lv_iload_n hx hb dX9_bolts_109 rfl (lv_at hl 2 rfl) ?_
    refine lv_bipush (v := 99) hx hb dX9_bolts_110 (by decide) ?_
    refine lv_icmp_ne (tgt := 120) hx hb dX9_bolts_112 (by decide) (fun c_31 => ?_) (fun c_31 => ?_)
    · replace hf := zif c_31 hf
      refine lv_iload_n hx hb dX9_bolts_120 rfl (lv_at hl 1 rfl) ?_
      refine lv_if_ge (tgt := 128) hx hb dX9_bolts_121 (by decide) (fun c_32 => ?_) (fun c_32 => ?_)
      · replace hf := zit c_32 hf
        refine lv_aload_n hx hb dX9_bolts_128 rfl (lv_at hl 0 rfl) ?_
        refine va_get (D := D) (ci := 9) (v := .ref (hM 13)) (C := RX9) (T := TX9) (N := 23) hx hb hts hi9 hown hK hP 0 rfl rfl 18 (Nat.le_of_ble_eq_true rfl) (hts _ (List.mem_cons_of_mem _ wd_670)) (fun _ h9 => h9) rfl dX9_bolts_129 ?_
        refine lv_iload_n hx hb dX9_bolts_132 rfl (lv_at hl 1 rfl) ?_
        obtain ⟨i_v33, v33, e_v33, hf⟩ := zl_some hf
        refine va_iald (n := 7) (f := M_29 18) (cA := cI) hx hb hK hP 13 0 rfl rfl i_v33 dX9_bolts_133 ?_
        refine zt e_v33 ?_
        cases hf
        exact zretI hx hb hr hlocks hK hP hD hS dX9_bolts_134
      · replace hf := zif c_32 hf
        refine lv_iload_n hx hb dX9_bolts_124 rfl (lv_at hl 2 rfl) ?_
        refine lv_goto (tgt := 134) hx hb dX9_bolts_125 (by decide) ?_
        cases hf
        exact zretI hx hb hr hlocks hK hP hD hS dX9_bolts_134
    · replace hf := zit c_31 hf
      refine lv_bipush (v := (-4)) hx hb dX9_bolts_115 (by decide) ?_
      refine lv_goto (tgt := 134) hx hb dX9_bolts_117 (by decide) ?_
      cases hf
      exact zretI hx hb hr hlocks hK hP hD hS dX9_bolts_134
  · replace hf := zit c_3 hf
    refine lv_iconst (v := (-1)) hx hb dX9_bolts_20 (by decide) ?_
    cases hf
    exact zretI hx hb hr hlocks hK hP hD hS dX9_bolts_21
def L_X9_coat_42 (M : zMm) (l1 : Int32) (l2 : Int32) (l3 : Int32) (l4 : Int32) : Nat → Int32 → Int32 → Option (Int32 × Int32)
  | 0, _, _ => none
  | n + 1, l5, l6 => if (M 6 0) ≤ l6 then some (l5, l6) else zb1 (if ((l4 >>> (l6 &&& 31)) &&& 1) = 1 then zl 7 (M 19) l6 (fun v13 => some v13) else zl 7 (M 19) l6 (fun v12 => some (-v12))) (fun (y9 : Int32) => zv (l5 + y9) (fun (x14 : Int32) => zv (l6 + 1) (fun (x15 : Int32) => L_X9_coat_42 M l1 l2 l3 l4 n x14 x15)))
def L_X9_coat_23 (M : zMm) (l1 : Int32) : Nat → Int32 → Int32 → Int32 → Option (Int32 × Int32 × Int32)
  | 0, _, _, _ => none
  | n + 1, l2, l3, l4 => if ((1 : Int32) <<< ((M 6 0) &&& 31)) ≤ l4 then some (l2, l3, l4) else zb2 (L_X9_coat_42 M l1 l2 l3 l4 100000 0 0) (fun (x7 : Int32) (x8 : Int32) => zb1 (if (0 : Int32) ≤ x7 then some x7 else some (-x7)) (fun (y11 : Int32) => zb2 (if l3 < 0 then some (l4, y11) else if l3 ≤ y11 then some (l2, l3) else some (l4, y11)) (fun (x15 : Int32) (x16 : Int32) => zv (l4 + 1) (fun (x20 : Int32) => L_X9_coat_23 M l1 n x15 x16 x20))))
def f_X9_coat (M : zMm) (a1 : Int32) : Option (Int32 × zMm) := zb1 (f_X9_in (a1.toInt64) 0 1) (fun (r1 : Int32) => if r1 = 0 then some (((-1) : Int32), M) else zb1 (f_X9_lengths M) (fun (M_4 : zMm) => zb3 (L_X9_coat_23 M_4 a1 100000 0 (-1) 0) (fun (x21 : Int32) (x22 : Int32) (x23 : Int32) => if a1 = 0 then some (x21, M_4) else some (x22, M_4))))
abbrev ww_X9_coat : List Cond := Cond.code yX9_coat cX9_coat 7 (some .int) :: wG
theorem q_X9_coat : yX9_coat.cls = RX9 ∧ yX9_coat.cls ≠ "java/lang/invoke/MethodHandle" ∧ yX9_coat.cls ≠ "java/lang/invoke/VarHandle" ∧ (parseMethodDescriptor yX9_coat.desc).map (fun d => d.parameters.length) = some 1 := by decide +kernel
set_option maxHeartbeats 4000000 in
set_option maxRecDepth 100000 in
theorem c_X9_coat (l : Launch) (D : va_G) (cI cB : ClassId) (hM : Nat → Nat) (M : zMm) (a1 : Int32) (r0 : Int32) (M0 : zMm) (hf : f_X9_coat M a1 = some (r0, M0)) : zMi l yX9_coat ww_X9_coat ({ frames := 3, cells := 0, slots := 0, locals := 67 } : Room) D cI cB [.ref (hM 0), .int a1] (w9 cI cB hM M) r0 (w9 cI cB hM M0) := by
  refine zofI (cc := cX9_coat) (maxL := 7) (ret := (some .int)) (by decide +kernel) rfl (Nat.le_of_ble_eq_true rfl) ?_
  intro p e s m below meth c A ls hx hb hml hr hown hts hlocks hK hP hD hS hA hl
  have hl : lv_has ls 7 [(0, .ref (hM 0)), (1, .int a1)] := hl
  have hown : s.vm.findClass RX9 = some m.cls := hown
  have hG : ∀ w ∈ wG, w ∈ ww_X9_coat := fun w h => List.mem_cons_of_mem _ h
  have hi9 : ∀ w ∈ wsX90, w ∈ ww_X9_coat := fun w h => List.mem_cons_of_mem _ (z_inX9 w h)
  have L42 : ∀ (M : zMm) (l1 : Int32) (l2 : Int32) (l3 : Int32) (l4 : Int32) (n : Nat) (l5 : Int32) (l6 : Int32) (o5 : Int32) (o6 : Int32), L_X9_coat_42 M l1 l2 l3 l4 n l5 l6 = some (o5, o6) → zAt p l e ({ frames := 3, cells := 0, slots := 0, locals := 67 } : Room) s m [.ref (hM 0), .int a1].toArray below meth c (MQ below (zQi D cI cB r0 (w9 cI cB hM M0) A) [.ref (hM 0), .int a1].toArray s 0 0 A) A D 7 (w9 cI cB hM M) [(0, .ref (hM 0)), (1, .int l1), (2, .int l2), (3, .int l3), (4, .int l4), (5, .int o5), (6, .int o6)] 93 [] → zAt p l e ({ frames := 3, cells := 0, slots := 0, locals := 67 } : Room) s m [.ref (hM 0), .int a1].toArray below meth c (MQ below (zQi D cI cB r0 (w9 cI cB hM M0) A) [.ref (hM 0), .int a1].toArray s 0 0 A) A D 7 (w9 cI cB hM M) [(0, .ref (hM 0)), (1, .int l1), (2, .int l2), (3, .int l3), (4, .int l4), (5, .int l5), (6, .int l6)] 42 [] := by
    intro M l1 l2 l3 l4 n
    induction n with
    | zero => intro l5 l6 o5 o6 hf; simp [L_X9_coat_42] at hf
    | succ n ih =>
      intro l5 l6 o5 o6 hf hk H locs ls hP hD hS hl
      rw [L_X9_coat_42] at hf
      refine lv_iload hx hb dX9_coat_42 (lv_at hl 6 rfl) ?_
      refine lv_aload_n hx hb dX9_coat_44 rfl (lv_at hl 0 rfl) ?_
      refine va_get (D := D) (ci := 9) (v := .ref (hM 5)) (C := RX9) (T := TX9) (N := 23) hx hb hts hi9 hown hK hP 0 rfl rfl 6 (Nat.le_of_ble_eq_true rfl) (hts _ (List.mem_cons_of_mem _ wd_658)) (fun _ h9 => h9) rfl dX9_coat_45 ?_
      refine lv_iconst (v := 0) hx hb dX9_coat_48 (by decide) ?_
      refine va_iald (n := 2) (f := M 6) (cA := cI) hx hb hK hP 5 0 rfl rfl (z_in (by decide)) dX9_coat_49 ?_
      refine z_tc (k := 0) (by decide) ?_
      refine lv_icmp_ge (tgt := 93) hx hb dX9_coat_50 (by decide) (fun c_7 => ?_) (fun c_7 => ?_)
      · replace hf := zit c_7 hf
        cases hf
        exact hk _ _ _ hP hD hS (lv_sub hl [0, 1, 2, 3, 4, 5, 6] rfl)
      · replace hf := zif c_7 hf
        refine lv_iload hx hb dX9_coat_53 (lv_at hl 5 rfl) ?_
        refine lv_iload hx hb dX9_coat_55 (lv_at hl 4 rfl) ?_
        refine lv_iload hx hb dX9_coat_57 (lv_at hl 6 rfl) ?_
        refine lv_ishr hx hb dX9_coat_59 ?_
        refine lv_iconst (v := 1) hx hb dX9_coat_60 (by decide) ?_
        refine lv_iand hx hb dX9_coat_61 ?_
        refine lv_iconst (v := 1) hx hb dX9_coat_62 (by decide) ?_
        obtain ⟨y9, hq10, hf⟩ := zb1_some hf
        have J11 : zAt p l e ({ frames := 3, cells := 0, slots := 0, locals := 67 } : Room) s m [.ref (hM 0), .int a1].toArray below meth c (MQ below (zQi D cI cB r0 (w9 cI cB hM M0) A) [.ref (hM 0), .int a1].toArray s 0 0 A) A D 7 (w9 cI cB hM M) [(0, .ref (hM 0)), (1, .int l1), (2, .int l2), (3, .int l3), (4, .int l4), (5, .int l5), (6, .int l6)] 84 [.int y9, .int l5] := by
          intro H locs ls hP hD hS hl
          refine lv_iadd hx hb dX9_coat_84 ?_
          obtain ⟨x14, e_x14, hf⟩ := zv_some hf
          refine zt e_x14 ?_
          refine lv_istore (lv' := [(5, .int x14), (0, .ref (hM 0)), (1, .int l1), (2, .int l2), (3, .int l3), (4, .int l4), (6, .int l6)]) hx hb dX9_coat_85 hl (by decide) rfl (fun ls hl => ?_)
          obtain ⟨x15, e_x15, hf⟩ := zv_some hf
          refine lv_iinc (v := x15) (lv' := [(6, .int x15), (5, .int x14), (0, .ref (hM 0)), (1, .int l1), (2, .int l2), (3, .int l3), (4, .int l4)]) hx hb dX9_coat_87 hl (k := 6) rfl (by rw [e_x15]; rfl) (by decide) rfl (fun ls hl => ?_)
          refine lv_goto (tgt := 42) hx hb dX9_coat_90 (by decide) ?_
          exact ih _ _ _ _ hf hk _ _ _ hP hD hS (lv_sub hl [2, 3, 4, 5, 6, 1, 0] rfl)
        replace hf := hq10
        refine lv_icmp_ne (tgt := 76) hx hb dX9_coat_63 (by decide) (fun c_8 => ?_) (fun c_8 => ?_)
        · replace hf := zif c_8 hf
          refine lv_aload_n hx hb dX9_coat_76 rfl (lv_at hl 0 rfl) ?_
          refine va_get (D := D) (ci := 9) (v := .ref (hM 14)) (C := RX9) (T := TX9) (N := 23) hx hb hts hi9 hown hK hP 0 rfl rfl 19 (Nat.le_of_ble_eq_true rfl) (hts _ (List.mem_cons_of_mem _ wd_671)) (fun _ h9 => h9) rfl dX9_coat_77 ?_
          refine lv_iload hx hb dX9_coat_80 (lv_at hl 6 rfl) ?_
          obtain ⟨i_v12, v12, e_v12, hf⟩ := zl_some hf
          refine va_iald (n := 7) (f := M 19) (cA := cI) hx hb hK hP 14 0 rfl rfl i_v12 dX9_coat_82 ?_
          refine zt e_v12 ?_
          refine lv_ineg hx hb dX9_coat_83 ?_
          cases hf
          exact J11 _ _ _ hP hD hS (lv_sub hl [0, 1, 2, 3, 4, 5, 6] rfl)
        · replace hf := zit c_8 hf
          refine lv_aload_n hx hb dX9_coat_66 rfl (lv_at hl 0 rfl) ?_
          refine va_get (D := D) (ci := 9) (v := .ref (hM 14)) (C := RX9) (T := TX9) (N := 23) hx hb hts hi9 hown hK hP 0 rfl rfl 19 (Nat.le_of_ble_eq_true rfl) (hts _ (List.mem_cons_of_mem _ wd_671)) (fun _ h9 => h9) rfl dX9_coat_67 ?_
          refine lv_iload hx hb dX9_coat_70 (lv_at hl 6 rfl) ?_
          obtain ⟨i_v13, v13, e_v13, hf⟩ := zl_some hf
          refine va_iald (n := 7) (f := M 19) (cA := cI) hx hb hK hP 14 0 rfl rfl i_v13 dX9_coat_72 ?_
          refine zt e_v13 ?_
          refine lv_goto (tgt := 84) hx hb dX9_coat_73 (by decide) ?_
          cases hf
          exact J11 _ _ _ hP hD hS (lv_sub hl [0, 1, 2, 3, 4, 5, 6] rfl)
  have L23 : ∀ (M : zMm) (l1 : Int32) (n : Nat) (l2 : Int32) (l3 : Int32) (l4 : Int32) (o2 : Int32) (o3 : Int32) (o4 : Int32), L_X9_coat_23 M l1 n l2 l3 l4 = some (o2, o3, o4) → zAt p l e ({ frames := 3, cells := 0, slots := 0, locals := 67 } : Room) s m [.ref (hM 0), .int a1].toArray below meth c (MQ below (zQi D cI cB r0 (w9 cI cB hM M0) A) [.ref (hM 0), .int a1].toArray s 0 0 A) A D 7 (w9 cI cB hM M) [(0, .ref (hM 0)), (1, .int l1), (2, .int o2), (3, .int o3), (4, .int o4)] 130 [] → zAt p l e ({ frames := 3, cells := 0, slots := 0, locals := 67 } : Room) s m [.ref (hM 0), .int a1].toArray below meth c (MQ below (zQi D cI cB r0 (w9 cI cB hM M0) A) [.ref (hM 0), .int a1].toArray s 0 0 A) A D 7 (w9 cI cB hM M) [(0, .ref (hM 0)), (1, .int l1), (2, .int l2), (3, .int l3), (4, .int l4)] 23 [] := by
    intro M l1 n
    induction n with
    | zero => intro l2 l3 l4 o2 o3 o4 hf; simp [L_X9_coat_23] at hf
    | succ n ih =>
      intro l2 l3 l4 o2 o3 o4 hf hk H locs ls hP hD hS hl
      rw [L_X9_coat_23] at hf
      refine lv_iload hx hb dX9_coat_23 (lv_at hl 4 rfl) ?_
      refine lv_iconst (v := 1) hx hb dX9_coat_25 (by decide) ?_
      refine lv_aload_n hx hb dX9_coat_26 rfl (lv_at hl 0 rfl) ?_
      refine va_get (D := D) (ci := 9) (v := .ref (hM 5)) (C := RX9) (T := TX9) (N := 23) hx hb hts hi9 hown hK hP 0 rfl rfl 6 (Nat.le_of_ble_eq_true rfl) (hts _ (List.mem_cons_of_mem _ wd_658)) (fun _ h9 => h9) rfl dX9_coat_27 ?_
      refine lv_iconst (v := 0) hx hb dX9_coat_30 (by decide) ?_
      refine va_iald (n := 2) (f := M 6) (cA := cI) hx hb hK hP 5 0 rfl rfl (z_in (by decide)) dX9_coat_31 ?_
      refine z_tc (k := 0) (by decide) ?_
      refine lv_ishl hx hb dX9_coat_32 ?_
      refine lv_icmp_ge (tgt := 130) hx hb dX9_coat_33 (by decide) (fun c_6 => ?_) (fun c_6 => ?_)
      · replace hf := zit c_6 hf
        cases hf
        exact hk _ _ _ hP hD hS (lv_sub hl [0, 1, 2, 3, 4] rfl)
      · replace hf := zif c_6 hf
        refine lv_iconst (v := 0) hx hb dX9_coat_36 (by decide) ?_
        refine lv_istore (lv' := [(5, .int 0), (0, .ref (hM 0)), (1, .int l1), (2, .int l2), (3, .int l3), (4, .int l4)]) hx hb dX9_coat_37 hl (by decide) rfl (fun ls hl => ?_)
        refine lv_iconst (v := 0) hx hb dX9_coat_39 (by decide) ?_
        refine lv_istore (lv' := [(6, .int 0), (5, .int 0), (0, .ref (hM 0)), (1, .int l1), (2, .int l2), (3, .int l3), (4, .int l4)]) hx hb dX9_coat_40 hl (by decide) rfl (fun ls hl => ?_)
        obtain ⟨x7, x8, hq9, hf⟩ := zb2_some hf
        refine L42 _ _ _ _ _ _ _ _ _ _ hq9 ?_ _ _ _ hP hD hS (lv_sub hl [2, 3, 4, 5, 6, 1, 0] rfl)
        intro H locs ls hP hD hS hl
        refine lv_iload hx hb dX9_coat_93 (lv_at hl 5 rfl) ?_
        obtain ⟨y11, hq12, hf⟩ := zb1_some hf
        have J13 : zAt p l e ({ frames := 3, cells := 0, slots := 0, locals := 67 } : Room) s m [.ref (hM 0), .int a1].toArray below meth c (MQ below (zQi D cI cB r0 (w9 cI cB hM M0) A) [.ref (hM 0), .int a1].toArray s 0 0 A) A D 7 (w9 cI cB hM M) [(0, .ref (hM 0)), (1, .int l1), (2, .int l2), (3, .int l3), (4, .int l4), (5, .int x7), (6, .int x8)] 106 [.int y11] := by
          intro H locs ls hP hD hS hl
          refine lv_istore (lv' := [(5, .int y11), (0, .ref (hM 0)), (1, .int l1), (2, .int l2), (3, .int l3), (4, .int l4), (6, .int x8)]) hx hb dX9_coat_106 hl (by decide) rfl (fun ls hl => ?_)
          refine lv_iload_n hx hb dX9_coat_108 rfl (lv_at hl 4 rfl) ?_
          obtain ⟨x15, x16, hq17, hf⟩ := zb2_some hf
          have J18 : zAt p l e ({ frames := 3, cells := 0, slots := 0, locals := 67 } : Room) s m [.ref (hM 0), .int a1].toArray below meth c (MQ below (zQi D cI cB r0 (w9 cI cB hM M0) A) [.ref (hM 0), .int a1].toArray s 0 0 A) A D 7 (w9 cI cB hM M) [(0, .ref (hM 0)), (1, .int l1), (2, .int x15), (3, .int x16), (4, .int l4), (5, .int y11), (6, .int x8)] 124 [] := by
            intro H locs ls hP hD hS hl
            obtain ⟨x20, e_x20, hf⟩ := zv_some hf
            refine lv_iinc (v := x20) (lv' := [(4, .int x20), (0, .ref (hM 0)), (1, .int l1), (2, .int x15), (3, .int x16), (5, .int y11), (6, .int x8)]) hx hb dX9_coat_124 hl (k := 4) rfl (by rw [e_x20]; rfl) (by decide) rfl (fun ls hl => ?_)
            refine lv_goto (tgt := 23) hx hb dX9_coat_127 (by decide) ?_
            exact ih _ _ _ _ _ _ hf hk _ _ _ hP hD hS (lv_sub hl [1, 2, 3, 4, 0] rfl)
          replace hf := hq17
          refine lv_if_lt (tgt := 118) hx hb dX9_coat_109 (by decide) (fun c_14 => ?_) (fun c_14 => ?_)
          · replace hf := zit c_14 hf
            refine lv_iload hx hb dX9_coat_118 (lv_at hl 0 rfl) ?_
            refine lv_istore_n (lv' := [(3, .int y11), (5, .int y11), (0, .ref (hM 0)), (1, .int l1), (2, .int l2), (4, .int l4), (6, .int x8)]) hx hb dX9_coat_120 rfl hl (by decide) rfl (fun ls hl => ?_)
            refine lv_iload hx hb dX9_coat_121 (lv_at hl 5 rfl) ?_
            refine lv_istore_n (lv' := [(2, .int l4), (3, .int y11), (5, .int y11), (0, .ref (hM 0)), (1, .int l1), (4, .int l4), (6, .int x8)]) hx hb dX9_coat_123 rfl hl (by decide) rfl (fun ls hl => ?_)
            cases hf
            exact J18 _ _ _ hP hD hS (lv_sub hl [3, 4, 0, 1, 5, 2, 6] rfl)
          · replace hf := zif c_14 hf
            refine lv_iload hx hb dX9_coat_112 (lv_at hl 0 rfl) ?_
            refine lv_iload_n hx hb dX9_coat_114 rfl (lv_at hl 4 rfl) ?_
            refine lv_icmp_ge (tgt := 124) hx hb dX9_coat_115 (by decide) (fun c_19 => ?_) (fun c_19 => ?_)
            · replace hf := zit c_19 hf
              cases hf
              exact J18 _ _ _ hP hD hS (lv_sub hl [1, 2, 3, 4, 5, 0, 6] rfl)
            · replace hf := zif c_19 hf
              refine lv_iload hx hb dX9_coat_118 (lv_at hl 0 rfl) ?_
              refine lv_istore_n (lv' := [(3, .int y11), (5, .int y11), (0, .ref (hM 0)), (1, .int l1), (2, .int l2), (4, .int l4), (6, .int x8)]) hx hb dX9_coat_120 rfl hl (by decide) rfl (fun ls hl => ?_)
              refine lv_iload hx hb dX9_coat_121 (lv_at hl 5 rfl) ?_
              refine lv_istore_n (lv' := [(2, .int l4), (3, .int y11), (5, .int y11), (0, .ref (hM 0)), (1, .int l1), (4, .int l4), (6, .int x8)]) hx hb dX9_coat_123 rfl hl (by decide) rfl (fun ls hl => ?_)
              cases hf
              exact J18 _ _ _ hP hD hS (lv_sub hl [3, 4, 0, 1, 5, 2, 6] rfl)
        replace hf := hq12
        refine lv_if_ge (tgt := 104) hx hb dX9_coat_95 (by decide) (fun c_10 => ?_) (fun c_10 => ?_)
        · replace hf := zit c_10 hf
          refine lv_iload hx hb dX9_coat_104 (lv_at hl 5 rfl) ?_
          cases hf
          exact J13 _ _ _ hP hD hS (lv_sub hl [0, 1, 2, 3, 4, 5, 6] rfl)
        · replace hf := zif c_10 hf
          refine lv_iload hx hb dX9_coat_98 (lv_at hl 5 rfl) ?_
          refine lv_ineg hx hb dX9_coat_100 ?_
          refine lv_goto (tgt := 106) hx hb dX9_coat_101 (by decide) ?_
          cases hf
          exact J13 _ _ _ hP hD hS (lv_sub hl [0, 1, 2, 3, 4, 5, 6] rfl)
  unfold f_X9_coat at hf
  refine lv_iload_n hx hb dX9_coat_0 rfl (lv_at hl 1 rfl) ?_
  refine lv_i2l hx hb dX9_coat_1 rfl ?_
  refine lv_lconst (v := 0) hx hb dX9_coat_2 (by decide) ?_
  refine lv_lconst (v := 1) hx hb dX9_coat_3 (by decide) ?_
  obtain ⟨r1, hq2, hf⟩ := zb1_some hf
  refine zcallSi (rest := []) ⟨hx, hb, hml, hown, hts⟩ (c_X9_in l D cI cB (a1.toInt64) 0 1 r1 hq2) (z_cwS 3 hts (z_gS hG wd_727 wd_728 wd_15 wd_729) rfl rfl rfl q_X9_in ⟨Nat.le_of_ble_eq_true rfl, Nat.le_of_ble_eq_true rfl⟩) hK hP hD hS hA rfl hl.1 (Nat.le_of_ble_eq_true rfl) dX9_coat_4 ⟨Nat.zero_le _, Nat.zero_le _⟩ rfl (fun H locs hP hD hS => ?_)
  refine lv_if_ne (tgt := 12) hx hb dX9_coat_7 (by decide) (fun c_3 => ?_) (fun c_3 => ?_)
  · replace hf := zif c_3 hf
    refine lv_aload_n hx hb dX9_coat_12 rfl (lv_at hl 0 rfl) ?_
    obtain ⟨M_4, hq5, hf⟩ := zb1_some hf
    refine zcallVv (ws2 := (w9 cI cB hM M_4)) (rest := []) ⟨hx, hb, hml, hown, hts⟩ (c_X9_lengths l D cI cB hM M M_4 hq5) (cwV 0 hts (z_gV hG wd_798 wd_800 wd_s30 wd_15 wd_801) rfl rfl rfl q_X9_lengths ⟨Nat.le_of_ble_eq_true rfl, Nat.le_of_ble_eq_true rfl⟩) hK hP hD hS hA 9 rfl rfl rfl [0, 1, 2, 3, 4, 5, 6, 7, 8, 9, 10, 11, 12, 13, 14, 15, 16, 17] [] rfl rfl rfl rfl rfl rfl rfl hl.1 (Nat.le_of_ble_eq_true rfl) dX9_coat_13 ⟨Nat.zero_le _, Nat.zero_le _⟩ rfl (fun H locs hP hD hS => ?_)
    refine lv_iconst (v := 0) hx hb dX9_coat_16 (by decide) ?_
    refine lv_istore_n (lv' := [(2, .int 0), (0, .ref (hM 0)), (1, .int a1)]) hx hb dX9_coat_17 rfl hl (by decide) rfl (fun ls hl => ?_)
    refine lv_iconst (v := (-1)) hx hb dX9_coat_18 (by decide) ?_
    refine lv_istore_n (lv' := [(3, .int (-1)), (2, .int 0), (0, .ref (hM 0)), (1, .int a1)]) hx hb dX9_coat_19 rfl hl (by decide) rfl (fun ls hl => ?_)
    refine lv_iconst (v := 0) hx hb dX9_coat_20 (by decide) ?_
    refine lv_istore (lv' := [(4, .int 0), (3, .int (-1)), (2, .int 0), (0, .ref (hM 0)), (1, .int a1)]) hx hb dX9_coat_21 hl (by decide) rfl (fun ls hl => ?_)
    obtain ⟨x21, x22, x23, hq24, hf⟩ := zb3_some hf
    refine L23 _ _ _ _ _ _ _ _ _ hq24 ?_ _ _ _ hP hD hS (lv_sub hl [3, 4, 2, 1, 0] rfl)
    intro H locs ls hP hD hS hl
    refine lv_iload_n hx hb dX9_coat_130 rfl (lv_at hl 1 rfl) ?_
    refine lv_if_ne (tgt := 138) hx hb dX9_coat_131 (by decide) (fun c_25 => ?_) (fun c_25 => ?_)
    · replace hf := zif c_25 hf
      refine lv_iload_n hx hb dX9_coat_138 rfl (lv_at hl 3 rfl) ?_
      cases hf
      exact zretI hx hb hr hlocks hK hP hD hS dX9_coat_139
    · replace hf := zit c_25 hf
      refine lv_iload_n hx hb dX9_coat_134 rfl (lv_at hl 2 rfl) ?_
      refine lv_goto (tgt := 139) hx hb dX9_coat_135 (by decide) ?_
      cases hf
      exact zretI hx hb hr hlocks hK hP hD hS dX9_coat_139
  · replace hf := zit c_3 hf
    refine lv_iconst (v := (-1)) hx hb dX9_coat_10 (by decide) ?_
    cases hf
    exact zretI hx hb hr hlocks hK hP hD hS dX9_coat_11
def f_X9_tailorOf (M : zMm) (a1 : Int32) (a2 : Int32) : Option (Int32) := zl 40 (M 9) (((2 : Int32) * a1) + a2) (fun v1 => zl 42 (M 7) (((3 : Int32) * v1) + 0) (fun v2 => some v2))
abbrev ww_X9_tailorOf : List Cond := Cond.code yX9_tailorOf cX9_tailorOf 3 (some .int) :: wG
theorem q_X9_tailorOf : yX9_tailorOf.cls = RX9 ∧ yX9_tailorOf.cls ≠ "java/lang/invoke/MethodHandle" ∧ yX9_tailorOf.cls ≠ "java/lang/invoke/VarHandle" ∧ (parseMethodDescriptor yX9_tailorOf.desc).map (fun d => d.parameters.length) = some 2 := by decide +kernel
set_option maxHeartbeats 4000000 in
set_option maxRecDepth 100000 in
theorem c_X9_tailorOf (l : Launch) (D : va_G) (cI cB : ClassId) (hM : Nat → Nat) (M : zMm) (a1 : Int32) (a2 : Int32) (r0 : Int32) (hf : f_X9_tailorOf M a1 a2 = some r0) : zMi l yX9_tailorOf ww_X9_tailorOf ({ frames := 0, cells := 0, slots := 0, locals := 0 } : Room) D cI cB [.ref (hM 0), .int a1, .int a2] [k9_0 cI cB hM M, k9_6 cI cB hM M, k9_8 cI cB hM M] r0 [k9_0 cI cB hM M, k9_6 cI cB hM M, k9_8 cI cB hM M] := by
  refine zofI (cc := cX9_tailorOf) (maxL := 3) (ret := (some .int)) (by decide +kernel) rfl (Nat.le_of_ble_eq_true rfl) ?_
  intro p e s m below meth c A ls hx hb hml hr hown hts hlocks hK hP hD hS hA hl
  have hl : lv_has ls 3 [(0, .ref (hM 0)), (1, .int a1), (2, .int a2)] := hl
  have hown : s.vm.findClass RX9 = some m.cls := hown
  have hG : ∀ w ∈ wG, w ∈ ww_X9_tailorOf := fun w h => List.mem_cons_of_mem _ h
  have hi9 : ∀ w ∈ wsX90, w ∈ ww_X9_tailorOf := fun w h => List.mem_cons_of_mem _ (z_inX9 w h)
  unfold f_X9_tailorOf at hf
  refine lv_aload_n hx hb dX9_tailorOf_0 rfl (lv_at hl 0 rfl) ?_
  refine va_get (D := D) (ci := 9) (v := .ref (hM 6)) (C := RX9) (T := TX9) (N := 23) hx hb hts hi9 hown hK hP 0 rfl rfl 7 (Nat.le_of_ble_eq_true rfl) (hts _ (List.mem_cons_of_mem _ wd_659)) (fun _ h9 => h9) rfl dX9_tailorOf_1 ?_
  refine lv_iconst (v := 3) hx hb dX9_tailorOf_4 (by decide) ?_
  refine lv_aload_n hx hb dX9_tailorOf_5 rfl (lv_at hl 0 rfl) ?_
  refine va_get (D := D) (ci := 9) (v := .ref (hM 8)) (C := RX9) (T := TX9) (N := 23) hx hb hts hi9 hown hK hP 0 rfl rfl 9 (Nat.le_of_ble_eq_true rfl) (hts _ (List.mem_cons_of_mem _ wd_661)) (fun _ h9 => h9) rfl dX9_tailorOf_6 ?_
  refine lv_iconst (v := 2) hx hb dX9_tailorOf_9 (by decide) ?_
  refine lv_iload_n hx hb dX9_tailorOf_10 rfl (lv_at hl 1 rfl) ?_
  refine lv_imul hx hb dX9_tailorOf_11 ?_
  refine lv_iload_n hx hb dX9_tailorOf_12 rfl (lv_at hl 2 rfl) ?_
  refine lv_iadd hx hb dX9_tailorOf_13 ?_
  obtain ⟨i_v1, v1, e_v1, hf⟩ := zl_some hf
  refine va_iald (n := 40) (f := M 9) (cA := cI) hx hb hK hP 2 0 rfl rfl i_v1 dX9_tailorOf_14 ?_
  refine zt e_v1 ?_
  refine lv_imul hx hb dX9_tailorOf_15 ?_
  refine lv_iconst (v := 0) hx hb dX9_tailorOf_16 (by decide) ?_
  refine lv_iadd hx hb dX9_tailorOf_17 ?_
  obtain ⟨i_v2, v2, e_v2, hf⟩ := zl_some hf
  refine va_iald (n := 42) (f := M 7) (cA := cI) hx hb hK hP 1 0 rfl rfl i_v2 dX9_tailorOf_18 ?_
  refine zt e_v2 ?_
  cases hf
  exact zretI hx hb hr hlocks hK hP hD hS dX9_tailorOf_19
def f_X9_pin (M : zMm) (a1 : Int32) : Option (Int32 × zMm) := zb1 (f_X9_in (a1.toInt64) 0 (((M 8 0) - 1).toInt64)) (fun (r1 : Int32) => if r1 = 0 then some (((-1) : Int32), M) else zb1 (f_X9_tailorOf M a1 0) (fun (r4 : Int32) => zb1 (f_X9_tailorOf M a1 1) (fun (r6 : Int32) => if r4 = r6 then some (((-2) : Int32), M) else if (M 15 0) = 12 then some (((-3) : Int32), M) else zw 12 M 16 (M 15 0) a1 (fun M_10 => zv (zs M_10 15 (fun _ => (M_10 15 0) + 1)) (fun (M_11 : zMm) => some (M_11 15 0, M_11))))))
abbrev ww_X9_pin : List Cond := Cond.code yX9_pin cX9_pin 2 (some .int) :: wG
theorem q_X9_pin : yX9_pin.cls = RX9 ∧ yX9_pin.cls ≠ "java/lang/invoke/MethodHandle" ∧ yX9_pin.cls ≠ "java/lang/invoke/VarHandle" ∧ (parseMethodDescriptor yX9_pin.desc).map (fun d => d.parameters.length) = some 1 := by decide +kernel
set_option maxHeartbeats 4000000 in
set_option maxRecDepth 100000 in
theorem c_X9_pin (l : Launch) (D : va_G) (cI cB : ClassId) (hM : Nat → Nat) (M : zMm) (a1 : Int32) (r0 : Int32) (M0 : zMm) (hf : f_X9_pin M a1 = some (r0, M0)) : zMi l yX9_pin ww_X9_pin ({ frames := 1, cells := 0, slots := 0, locals := 25 } : Room) D cI cB [.ref (hM 0), .int a1] (w9 cI cB hM M) r0 (w9 cI cB hM M0) := by
  refine zofI (cc := cX9_pin) (maxL := 2) (ret := (some .int)) (by decide +kernel) rfl (Nat.le_of_ble_eq_true rfl) ?_
  intro p e s m below meth c A ls hx hb hml hr hown hts hlocks hK hP hD hS hA hl
  have hl : lv_has ls 2 [(0, .ref (hM 0)), (1, .int a1)] := hl
  have hown : s.vm.findClass RX9 = some m.cls := hown
  have hG : ∀ w ∈ wG, w ∈ ww_X9_pin := fun w h => List.mem_cons_of_mem _ h
  have hi9 : ∀ w ∈ wsX90, w ∈ ww_X9_pin := fun w h => List.mem_cons_of_mem _ (z_inX9 w h)
  unfold f_X9_pin at hf
  refine lv_iload_n hx hb dX9_pin_0 rfl (lv_at hl 1 rfl) ?_
  refine lv_i2l hx hb dX9_pin_1 rfl ?_
  refine lv_lconst (v := 0) hx hb dX9_pin_2 (by decide) ?_
  refine lv_aload_n hx hb dX9_pin_3 rfl (lv_at hl 0 rfl) ?_
  refine va_get (D := D) (ci := 9) (v := .ref (hM 7)) (C := RX9) (T := TX9) (N := 23) hx hb hts hi9 hown hK hP 0 rfl rfl 8 (Nat.le_of_ble_eq_true rfl) (hts _ (List.mem_cons_of_mem _ wd_660)) (fun _ h9 => h9) rfl dX9_pin_4 ?_
  refine lv_iconst (v := 0) hx hb dX9_pin_7 (by decide) ?_
  refine va_iald (n := 2) (f := M 8) (cA := cI) hx hb hK hP 7 0 rfl rfl (z_in (by decide)) dX9_pin_8 ?_
  refine z_tc (k := 0) (by decide) ?_
  refine lv_iconst (v := 1) hx hb dX9_pin_9 (by decide) ?_
  refine lv_isub hx hb dX9_pin_10 ?_
  refine lv_i2l hx hb dX9_pin_11 rfl ?_
  obtain ⟨r1, hq2, hf⟩ := zb1_some hf
  refine zcallSi (rest := []) ⟨hx, hb, hml, hown, hts⟩ (c_X9_in l D cI cB (a1.toInt64) 0 (((M 8 0) - 1).toInt64) r1 hq2) (z_cwS 3 hts (z_gS hG wd_727 wd_728 wd_15 wd_729) rfl rfl rfl q_X9_in ⟨Nat.le_of_ble_eq_true rfl, Nat.le_of_ble_eq_true rfl⟩) hK hP hD hS hA rfl hl.1 (Nat.le_of_ble_eq_true rfl) dX9_pin_12 ⟨Nat.zero_le _, Nat.zero_le _⟩ rfl (fun H locs hP hD hS => ?_)
  refine lv_if_ne (tgt := 20) hx hb dX9_pin_15 (by decide) (fun c_3 => ?_) (fun c_3 => ?_)
  · replace hf := zif c_3 hf
    refine lv_aload_n hx hb dX9_pin_20 rfl (lv_at hl 0 rfl) ?_
    refine lv_iload_n hx hb dX9_pin_21 rfl (lv_at hl 1 rfl) ?_
    refine lv_iconst (v := 0) hx hb dX9_pin_22 (by decide) ?_
    obtain ⟨r4, hq5, hf⟩ := zb1_some hf
    refine zcallVi (ws2 := (w9 cI cB hM M)) (rest := []) ⟨hx, hb, hml, hown, hts⟩ (c_X9_tailorOf l D cI cB hM M a1 0 r4 hq5) (cwV 2 hts (z_gV hG wd_898 wd_900 wd_s40 wd_15 wd_901) rfl rfl rfl q_X9_tailorOf ⟨Nat.le_of_ble_eq_true rfl, Nat.le_of_ble_eq_true rfl⟩) hK hP hD hS hA 9 rfl rfl rfl [0, 6, 8] [1, 2, 3, 4, 5, 7, 9, 10, 11, 12, 13, 14, 15, 16, 17] rfl rfl rfl rfl rfl rfl rfl hl.1 (Nat.le_of_ble_eq_true rfl) dX9_pin_23 ⟨Nat.zero_le _, Nat.zero_le _⟩ rfl (fun H locs hP hD hS => ?_)
    refine lv_aload_n hx hb dX9_pin_26 rfl (lv_at hl 0 rfl) ?_
    refine lv_iload_n hx hb dX9_pin_27 rfl (lv_at hl 1 rfl) ?_
    refine lv_iconst (v := 1) hx hb dX9_pin_28 (by decide) ?_
    obtain ⟨r6, hq7, hf⟩ := zb1_some hf
    refine zcallVi (ws2 := (w9 cI cB hM M)) (rest := [.int r4]) ⟨hx, hb, hml, hown, hts⟩ (c_X9_tailorOf l D cI cB hM M a1 1 r6 hq7) (cwV 2 hts (z_gV hG wd_898 wd_900 wd_s40 wd_15 wd_901) rfl rfl rfl q_X9_tailorOf ⟨Nat.le_of_ble_eq_true rfl, Nat.le_of_ble_eq_true rfl⟩) hK hP hD hS hA 9 rfl rfl rfl [0, 6, 8] [1, 2, 3, 4, 5, 7, 9, 10, 11, 12, 13, 14, 15, 16, 17] rfl rfl rfl rfl rfl rfl rfl hl.1 (Nat.le_of_ble_eq_true rfl) dX9_pin_29 ⟨Nat.zero_le _, Nat.zero_le _⟩ rfl (fun H locs hP hD hS => ?_)
    refine lv_icmp_ne (tgt := 38) hx hb dX9_pin_32 (by decide) (fun c_8 => ?_) (fun c_8 => ?_)
    · replace hf := zif c_8 hf
      refine lv_aload_n hx hb dX9_pin_38 rfl (lv_at hl 0 rfl) ?_
      refine va_get (D := D) (ci := 9) (v := .int (M 15 0)) (C := RX9) (T := TX9) (N := 23) hx hb hts hi9 hown hK hP 0 rfl rfl 15 (Nat.le_of_ble_eq_true rfl) (hts _ (List.mem_cons_of_mem _ wd_667)) (fun _ h9 => h9) rfl dX9_pin_39 ?_
      refine lv_bipush (v := 12) hx hb dX9_pin_42 (by decide) ?_
      refine lv_icmp_ne (tgt := 50) hx hb dX9_pin_44 (by decide) (fun c_9 => ?_) (fun c_9 => ?_)
      · replace hf := zif c_9 hf
        refine lv_aload_n hx hb dX9_pin_50 rfl (lv_at hl 0 rfl) ?_
        refine va_get (D := D) (ci := 9) (v := .ref (hM 11)) (C := RX9) (T := TX9) (N := 23) hx hb hts hi9 hown hK hP 0 rfl rfl 16 (Nat.le_of_ble_eq_true rfl) (hts _ (List.mem_cons_of_mem _ wd_668)) (fun _ h9 => h9) rfl dX9_pin_51 ?_
        refine lv_aload_n hx hb dX9_pin_54 rfl (lv_at hl 0 rfl) ?_
        refine va_get (D := D) (ci := 9) (v := .int (M 15 0)) (C := RX9) (T := TX9) (N := 23) hx hb hts hi9 hown hK hP 0 rfl rfl 15 (Nat.le_of_ble_eq_true rfl) (hts _ (List.mem_cons_of_mem _ wd_667)) (fun _ h9 => h9) rfl dX9_pin_55 ?_
        refine lv_iload_n hx hb dX9_pin_58 rfl (lv_at hl 1 rfl) ?_
        obtain ⟨i_M_10, M_10, e_M_10, hf⟩ := zw_some hf
        refine va_iast (n := 12) (f := M 16) (cA := cI) hx hb hK hP hD hS 11 0 rfl rfl i_M_10 dX9_pin_59 (fun H locs hP hD hS => ?_)
        have hP : va_P D vwCl (w9 cI cB hM (zs M 16 (upd (M 16) (M 15 0).toNatClampNeg a1))) H := hP
        have hD : va_D A (w9 cI cB hM (zs M 16 (upd (M 16) (M 15 0).toNatClampNeg a1))) := hD
        rw [← e_M_10] at hP hD
        refine lv_aload_n hx hb dX9_pin_60 rfl (lv_at hl 0 rfl) ?_
        refine lv_dup hx hb dX9_pin_61 rfl ?_
        refine va_get (D := D) (ci := 9) (v := .int (M_10 15 0)) (C := RX9) (T := TX9) (N := 23) hx hb hts hi9 hown hK hP 0 rfl rfl 15 (Nat.le_of_ble_eq_true rfl) (hts _ (List.mem_cons_of_mem _ wd_667)) (fun _ h9 => h9) rfl dX9_pin_62 ?_
        refine lv_iconst (v := 1) hx hb dX9_pin_65 (by decide) ?_
        refine lv_iadd hx hb dX9_pin_66 ?_
        obtain ⟨M_11, e_M_11, hf⟩ := zv_some hf
        refine va_put (D := D) (ci := 9) (v := .int ((M_10 15 0) + 1)) (ty := .int) (C := RX9) (T := TX9) (N := 23) hx hb hts hi9 tyX9 tyX9_ok nmX9 hown hK hP hD hS 0 rfl rfl 15 (Nat.le_of_ble_eq_true rfl) (hts _ (List.mem_cons_of_mem _ wd_667)) (fun _ h9 => h9) rfl (by decide +kernel) rfl rfl (Nat.le_of_ble_eq_true rfl) dX9_pin_67 (fun H locs hP hD hS => ?_)
        have hP : va_P D vwCl (w9 cI cB hM (zs M_10 15 (fun _ => (M_10 15 0) + 1))) H := hP
        have hD : va_D A (w9 cI cB hM (zs M_10 15 (fun _ => (M_10 15 0) + 1))) := hD
        rw [← e_M_11] at hP hD
        refine lv_aload_n hx hb dX9_pin_70 rfl (lv_at hl 0 rfl) ?_
        refine va_get (D := D) (ci := 9) (v := .int (M_11 15 0)) (C := RX9) (T := TX9) (N := 23) hx hb hts hi9 hown hK hP 0 rfl rfl 15 (Nat.le_of_ble_eq_true rfl) (hts _ (List.mem_cons_of_mem _ wd_667)) (fun _ h9 => h9) rfl dX9_pin_71 ?_
        cases hf
        exact zretI hx hb hr hlocks hK hP hD hS dX9_pin_74
      · replace hf := zit c_9 hf
        refine lv_bipush (v := (-3)) hx hb dX9_pin_47 (by decide) ?_
        cases hf
        exact zretI hx hb hr hlocks hK hP hD hS dX9_pin_49
    · replace hf := zit c_8 hf
      refine lv_bipush (v := (-2)) hx hb dX9_pin_35 (by decide) ?_
      cases hf
      exact zretI hx hb hr hlocks hK hP hD hS dX9_pin_37
  · replace hf := zit c_3 hf
    refine lv_iconst (v := (-1)) hx hb dX9_pin_18 (by decide) ?_
    cases hf
    exact zretI hx hb hr hlocks hK hP hD hS dX9_pin_19
def f_X9_noPins (M : zMm) : Option (Int32 × zMm) := zv (M 15 0) (fun (x1 : Int32) => zv (zs M 15 (fun _ => 0)) (fun (M_2 : zMm) => some (x1, M_2)))
abbrev ww_X9_noPins : List Cond := Cond.code yX9_noPins cX9_noPins 2 (some .int) :: wG
theorem q_X9_noPins : yX9_noPins.cls = RX9 ∧ yX9_noPins.cls ≠ "java/lang/invoke/MethodHandle" ∧ yX9_noPins.cls ≠ "java/lang/invoke/VarHandle" ∧ (parseMethodDescriptor yX9_noPins.desc).map (fun d => d.parameters.length) = some 0 := by decide +kernel
set_option maxHeartbeats 4000000 in
set_option maxRecDepth 100000 in
theorem c_X9_noPins (l : Launch) (D : va_G) (cI cB : ClassId) (hM : Nat → Nat) (M : zMm) (r0 : Int32) (M0 : zMm) (hf : f_X9_noPins M = some (r0, M0)) : zMi l yX9_noPins ww_X9_noPins ({ frames := 0, cells := 0, slots := 0, locals := 0 } : Room) D cI cB [.ref (hM 0)] (w9 cI cB hM M) r0 (w9 cI cB hM M0) := by
  refine zofI (cc := cX9_noPins) (maxL := 2) (ret := (some .int)) (by decide +kernel) rfl (Nat.le_of_ble_eq_true rfl) ?_
  intro p e s m below meth c A ls hx hb hml hr hown hts hlocks hK hP hD hS hA hl
  have hl : lv_has ls 2 [(0, .ref (hM 0))] := hl
  have hown : s.vm.findClass RX9 = some m.cls := hown
  have hG : ∀ w ∈ wG, w ∈ ww_X9_noPins := fun w h => List.mem_cons_of_mem _ h
  have hi9 : ∀ w ∈ wsX90, w ∈ ww_X9_noPins := fun w h => List.mem_cons_of_mem _ (z_inX9 w h)
  unfold f_X9_noPins at hf
  refine lv_aload_n hx hb dX9_noPins_0 rfl (lv_at hl 0 rfl) ?_
  refine va_get (D := D) (ci := 9) (v := .int (M 15 0)) (C := RX9) (T := TX9) (N := 23) hx hb hts hi9 hown hK hP 0 rfl rfl 15 (Nat.le_of_ble_eq_true rfl) (hts _ (List.mem_cons_of_mem _ wd_667)) (fun _ h9 => h9) rfl dX9_noPins_1 ?_
  obtain ⟨x1, e_x1, hf⟩ := zv_some hf
  refine zt e_x1 ?_
  refine lv_istore_n (lv' := [(1, .int x1), (0, .ref (hM 0))]) hx hb dX9_noPins_4 rfl hl (by decide) rfl (fun ls hl => ?_)
  refine lv_aload_n hx hb dX9_noPins_5 rfl (lv_at hl 1 rfl) ?_
  refine lv_iconst (v := 0) hx hb dX9_noPins_6 (by decide) ?_
  obtain ⟨M_2, e_M_2, hf⟩ := zv_some hf
  refine va_put (D := D) (ci := 9) (v := .int 0) (ty := .int) (C := RX9) (T := TX9) (N := 23) hx hb hts hi9 tyX9 tyX9_ok nmX9 hown hK hP hD hS 0 rfl rfl 15 (Nat.le_of_ble_eq_true rfl) (hts _ (List.mem_cons_of_mem _ wd_667)) (fun _ h9 => h9) rfl (by decide +kernel) rfl rfl (Nat.le_of_ble_eq_true rfl) dX9_noPins_7 (fun H locs hP hD hS => ?_)
  have hP : va_P D vwCl (w9 cI cB hM (zs M 15 (fun _ => 0))) H := hP
  have hD : va_D A (w9 cI cB hM (zs M 15 (fun _ => 0))) := hD
  rw [← e_M_2] at hP hD
  refine lv_iload_n hx hb dX9_noPins_10 rfl (lv_at hl 0 rfl) ?_
  cases hf
  exact zretI hx hb hr hlocks hK hP hD hS dX9_noPins_11
def L_X9_thumb_21 (M : zMm) (l1 : Int32) : Nat → Int32 → Int32 → Option (Int32 × Int32)
  | 0, _, _ => none
  | n + 1, l2, l3 => if l1 ≤ l3 then some (l2, l3) else zl 12 (M 16) l3 (fun v4 => zl 12 (M 16) l1 (fun v5 => zb1 (if v4 = v5 then some (1 : Int32) else some (0 : Int32)) (fun (y7 : Int32) => zv (l2 + y7) (fun (x10 : Int32) => zv (l3 + 1) (fun (x11 : Int32) => L_X9_thumb_21 M l1 n x10 x11)))))
def f_X9_thumb (M : zMm) (a1 : Int32) : Option (Int32) := if (0 : Int32) ≤ a1 then if a1 < (M 15 0) then zb2 (L_X9_thumb_21 M a1 100000 0 0) (fun (x12 : Int32) (x13 : Int32) => zl 12 (M 16) a1 (fun v15 => zb1 (f_X9_tailorOf M v15 (zrI x12 (2 : Int32))) (fun (r16 : Int32) => some r16))) else some ((-4) : Int32) else some ((-1) : Int32)
abbrev ww_X9_thumb : List Cond := Cond.code yX9_thumb cX9_thumb 4 (some .int) :: wG
theorem q_X9_thumb : yX9_thumb.cls = RX9 ∧ yX9_thumb.cls ≠ "java/lang/invoke/MethodHandle" ∧ yX9_thumb.cls ≠ "java/lang/invoke/VarHandle" ∧ (parseMethodDescriptor yX9_thumb.desc).map (fun d => d.parameters.length) = some 1 := by decide +kernel
set_option maxHeartbeats 4000000 in
set_option maxRecDepth 100000 in
theorem c_X9_thumb (l : Launch) (D : va_G) (cI cB : ClassId) (hM : Nat → Nat) (M : zMm) (a1 : Int32) (r0 : Int32) (hf : f_X9_thumb M a1 = some r0) : zMi l yX9_thumb ww_X9_thumb ({ frames := 1, cells := 0, slots := 0, locals := 22 } : Room) D cI cB [.ref (hM 0), .int a1] [k9_0 cI cB hM M, k9_6 cI cB hM M, k9_8 cI cB hM M, k9_11 cI cB hM M] r0 [k9_0 cI cB hM M, k9_6 cI cB hM M, k9_8 cI cB hM M, k9_11 cI cB hM M] := by
  refine zofI (cc := cX9_thumb) (maxL := 4) (ret := (some .int)) (by decide +kernel) rfl (Nat.le_of_ble_eq_true rfl) ?_
  intro p e s m below meth c A ls hx hb hml hr hown hts hlocks hK hP hD hS hA hl
  have hl : lv_has ls 4 [(0, .ref (hM 0)), (1, .int a1)] := hl
  have hown : s.vm.findClass RX9 = some m.cls := hown
  have hG : ∀ w ∈ wG, w ∈ ww_X9_thumb := fun w h => List.mem_cons_of_mem _ h
  have hi9 : ∀ w ∈ wsX90, w ∈ ww_X9_thumb := fun w h => List.mem_cons_of_mem _ (z_inX9 w h)
  have L21 : ∀ (M : zMm) (l1 : Int32) (n : Nat) (l2 : Int32) (l3 : Int32) (o2 : Int32) (o3 : Int32), L_X9_thumb_21 M l1 n l2 l3 = some (o2, o3) → zAt p l e ({ frames := 1, cells := 0, slots := 0, locals := 22 } : Room) s m [.ref (hM 0), .int a1].toArray below meth c (MQ below (zQi D cI cB r0 [k9_0 cI cB hM M, k9_6 cI cB hM M, k9_8 cI cB hM M, k9_11 cI cB hM M] A) [.ref (hM 0), .int a1].toArray s 0 0 A) A D 4 [k9_0 cI cB hM M, k9_6 cI cB hM M, k9_8 cI cB hM M, k9_11 cI cB hM M] [(0, .ref (hM 0)), (1, .int l1), (2, .int o2), (3, .int o3)] 55 [] → zAt p l e ({ frames := 1, cells := 0, slots := 0, locals := 22 } : Room) s m [.ref (hM 0), .int a1].toArray below meth c (MQ below (zQi D cI cB r0 [k9_0 cI cB hM M, k9_6 cI cB hM M, k9_8 cI cB hM M, k9_11 cI cB hM M] A) [.ref (hM 0), .int a1].toArray s 0 0 A) A D 4 [k9_0 cI cB hM M, k9_6 cI cB hM M, k9_8 cI cB hM M, k9_11 cI cB hM M] [(0, .ref (hM 0)), (1, .int l1), (2, .int l2), (3, .int l3)] 21 [] := by
    intro M l1 n
    induction n with
    | zero => intro l2 l3 o2 o3 hf; simp [L_X9_thumb_21] at hf
    | succ n ih =>
      intro l2 l3 o2 o3 hf hk H locs ls hP hD hS hl
      rw [L_X9_thumb_21] at hf
      refine lv_iload_n hx hb dX9_thumb_21 rfl (lv_at hl 3 rfl) ?_
      refine lv_iload_n hx hb dX9_thumb_22 rfl (lv_at hl 1 rfl) ?_
      refine lv_icmp_ge (tgt := 55) hx hb dX9_thumb_23 (by decide) (fun c_3 => ?_) (fun c_3 => ?_)
      · replace hf := zit c_3 hf
        cases hf
        exact hk _ _ _ hP hD hS (lv_sub hl [0, 1, 2, 3] rfl)
      · replace hf := zif c_3 hf
        refine lv_iload_n hx hb dX9_thumb_26 rfl (lv_at hl 2 rfl) ?_
        refine lv_aload_n hx hb dX9_thumb_27 rfl (lv_at hl 0 rfl) ?_
        refine va_get (D := D) (ci := 9) (v := .ref (hM 11)) (C := RX9) (T := TX9) (N := 23) hx hb hts hi9 hown hK hP 0 rfl rfl 16 (Nat.le_of_ble_eq_true rfl) (hts _ (List.mem_cons_of_mem _ wd_668)) (fun _ h9 => h9) rfl dX9_thumb_28 ?_
        refine lv_iload_n hx hb dX9_thumb_31 rfl (lv_at hl 3 rfl) ?_
        obtain ⟨i_v4, v4, e_v4, hf⟩ := zl_some hf
        refine va_iald (n := 12) (f := M 16) (cA := cI) hx hb hK hP 3 0 rfl rfl i_v4 dX9_thumb_32 ?_
        refine zt e_v4 ?_
        refine lv_aload_n hx hb dX9_thumb_33 rfl (lv_at hl 0 rfl) ?_
        refine va_get (D := D) (ci := 9) (v := .ref (hM 11)) (C := RX9) (T := TX9) (N := 23) hx hb hts hi9 hown hK hP 0 rfl rfl 16 (Nat.le_of_ble_eq_true rfl) (hts _ (List.mem_cons_of_mem _ wd_668)) (fun _ h9 => h9) rfl dX9_thumb_34 ?_
        refine lv_iload_n hx hb dX9_thumb_37 rfl (lv_at hl 1 rfl) ?_
        obtain ⟨i_v5, v5, e_v5, hf⟩ := zl_some hf
        refine va_iald (n := 12) (f := M 16) (cA := cI) hx hb hK hP 3 0 rfl rfl i_v5 dX9_thumb_38 ?_
        refine zt e_v5 ?_
        obtain ⟨y7, hq8, hf⟩ := zb1_some hf
        have J9 : zAt p l e ({ frames := 1, cells := 0, slots := 0, locals := 22 } : Room) s m [.ref (hM 0), .int a1].toArray below meth c (MQ below (zQi D cI cB r0 [k9_0 cI cB hM M, k9_6 cI cB hM M, k9_8 cI cB hM M, k9_11 cI cB hM M] A) [.ref (hM 0), .int a1].toArray s 0 0 A) A D 4 [k9_0 cI cB hM M, k9_6 cI cB hM M, k9_8 cI cB hM M, k9_11 cI cB hM M] [(0, .ref (hM 0)), (1, .int l1), (2, .int l2), (3, .int l3)] 47 [.int y7, .int l2] := by
          intro H locs ls hP hD hS hl
          refine lv_iadd hx hb dX9_thumb_47 ?_
          obtain ⟨x10, e_x10, hf⟩ := zv_some hf
          refine zt e_x10 ?_
          refine lv_istore_n (lv' := [(2, .int x10), (0, .ref (hM 0)), (1, .int l1), (3, .int l3)]) hx hb dX9_thumb_48 rfl hl (by decide) rfl (fun ls hl => ?_)
          obtain ⟨x11, e_x11, hf⟩ := zv_some hf
          refine lv_iinc (v := x11) (lv' := [(3, .int x11), (2, .int x10), (0, .ref (hM 0)), (1, .int l1)]) hx hb dX9_thumb_49 hl (k := 3) rfl (by rw [e_x11]; rfl) (by decide) rfl (fun ls hl => ?_)
          refine lv_goto (tgt := 21) hx hb dX9_thumb_52 (by decide) ?_
          exact ih _ _ _ _ hf hk _ _ _ hP hD hS (lv_sub hl [2, 3, 1, 0] rfl)
        replace hf := hq8
        refine lv_icmp_ne (tgt := 46) hx hb dX9_thumb_39 (by decide) (fun c_6 => ?_) (fun c_6 => ?_)
        · replace hf := zif c_6 hf
          refine lv_iconst (v := 0) hx hb dX9_thumb_46 (by decide) ?_
          cases hf
          exact J9 _ _ _ hP hD hS (lv_sub hl [0, 1, 2, 3] rfl)
        · replace hf := zit c_6 hf
          refine lv_iconst (v := 1) hx hb dX9_thumb_42 (by decide) ?_
          refine lv_goto (tgt := 47) hx hb dX9_thumb_43 (by decide) ?_
          cases hf
          exact J9 _ _ _ hP hD hS (lv_sub hl [0, 1, 2, 3] rfl)
  unfold f_X9_thumb at hf
  refine lv_iload_n hx hb dX9_thumb_0 rfl (lv_at hl 1 rfl) ?_
  refine lv_if_ge (tgt := 6) hx hb dX9_thumb_1 (by decide) (fun c_1 => ?_) (fun c_1 => ?_)
  · replace hf := zit c_1 hf
    refine lv_iload_n hx hb dX9_thumb_6 rfl (lv_at hl 1 rfl) ?_
    refine lv_aload_n hx hb dX9_thumb_7 rfl (lv_at hl 0 rfl) ?_
    refine va_get (D := D) (ci := 9) (v := .int (M 15 0)) (C := RX9) (T := TX9) (N := 23) hx hb hts hi9 hown hK hP 0 rfl rfl 15 (Nat.le_of_ble_eq_true rfl) (hts _ (List.mem_cons_of_mem _ wd_667)) (fun _ h9 => h9) rfl dX9_thumb_8 ?_
    refine lv_icmp_lt (tgt := 17) hx hb dX9_thumb_11 (by decide) (fun c_2 => ?_) (fun c_2 => ?_)
    · replace hf := zit c_2 hf
      refine lv_iconst (v := 0) hx hb dX9_thumb_17 (by decide) ?_
      refine lv_istore_n (lv' := [(2, .int 0), (0, .ref (hM 0)), (1, .int a1)]) hx hb dX9_thumb_18 rfl hl (by decide) rfl (fun ls hl => ?_)
      refine lv_iconst (v := 0) hx hb dX9_thumb_19 (by decide) ?_
      refine lv_istore_n (lv' := [(3, .int 0), (2, .int 0), (0, .ref (hM 0)), (1, .int a1)]) hx hb dX9_thumb_20 rfl hl (by decide) rfl (fun ls hl => ?_)
      obtain ⟨x12, x13, hq14, hf⟩ := zb2_some hf
      refine L21 _ _ _ _ _ _ _ hq14 ?_ _ _ _ hP hD hS (lv_sub hl [2, 3, 1, 0] rfl)
      intro H locs ls hP hD hS hl
      refine lv_aload_n hx hb dX9_thumb_55 rfl (lv_at hl 0 rfl) ?_
      refine lv_aload_n hx hb dX9_thumb_56 rfl (lv_at hl 0 rfl) ?_
      refine va_get (D := D) (ci := 9) (v := .ref (hM 11)) (C := RX9) (T := TX9) (N := 23) hx hb hts hi9 hown hK hP 0 rfl rfl 16 (Nat.le_of_ble_eq_true rfl) (hts _ (List.mem_cons_of_mem _ wd_668)) (fun _ h9 => h9) rfl dX9_thumb_57 ?_
      refine lv_iload_n hx hb dX9_thumb_60 rfl (lv_at hl 1 rfl) ?_
      obtain ⟨i_v15, v15, e_v15, hf⟩ := zl_some hf
      refine va_iald (n := 12) (f := M 16) (cA := cI) hx hb hK hP 3 0 rfl rfl i_v15 dX9_thumb_61 ?_
      refine zt e_v15 ?_
      refine lv_iload_n hx hb dX9_thumb_62 rfl (lv_at hl 2 rfl) ?_
      refine lv_iconst (v := 2) hx hb dX9_thumb_63 (by decide) ?_
      refine lv_irem hx hb dX9_thumb_64 (by decide) ?_
      refine zt (y := zrI x12 (2 : Int32)) rfl ?_
      obtain ⟨r16, hq17, hf⟩ := zb1_some hf
      refine zcallVi (ws2 := [k9_0 cI cB hM M, k9_6 cI cB hM M, k9_8 cI cB hM M, k9_11 cI cB hM M]) (rest := []) ⟨hx, hb, hml, hown, hts⟩ (c_X9_tailorOf l D cI cB hM M v15 (zrI x12 (2 : Int32)) r16 hq17) (cwV 2 hts (z_gV hG wd_898 wd_900 wd_s40 wd_15 wd_901) rfl rfl rfl q_X9_tailorOf ⟨Nat.le_of_ble_eq_true rfl, Nat.le_of_ble_eq_true rfl⟩) hK hP hD hS hA 9 rfl rfl rfl [0, 1, 2] [3] rfl rfl rfl rfl rfl rfl rfl hl.1 (Nat.le_of_ble_eq_true rfl) dX9_thumb_65 ⟨Nat.zero_le _, Nat.zero_le _⟩ rfl (fun H locs hP hD hS => ?_)
      cases hf
      exact zretI hx hb hr hlocks hK hP hD hS dX9_thumb_68
    · replace hf := zif c_2 hf
      refine lv_bipush (v := (-4)) hx hb dX9_thumb_14 (by decide) ?_
      cases hf
      exact zretI hx hb hr hlocks hK hP hD hS dX9_thumb_16
  · replace hf := zif c_1 hf
    refine lv_iconst (v := (-1)) hx hb dX9_thumb_4 (by decide) ?_
    cases hf
    exact zretI hx hb hr hlocks hK hP hD hS dX9_thumb_5
def L_X9_year_54 (l1 : Int32) (l2 : Int32) (l3 : Int32) (l4 : Int32) (l5 : Int32) (l6 : Int32) : Nat → Int32 → zMm → Option (Int32 × zMm)
  | 0, _, _ => none
  | n + 1, l7, M => if (M 6 0) ≤ l7 then some (l7, M) else zb1 (f_X9_placeOf M l7) (fun (r12 : Int32) => zb1 (f_X9_slip (zrI (l1 + l6) (1000 : Int32)) l7 r12) (fun (r14 : Int32) => zb1 (f_X9_cutOf M l7 r14) (fun (r16 : Int32) => zw 7 M 19 l7 r16 (fun M_18 => zv (l7 + 1) (fun (x19 : Int32) => L_X9_year_54 l1 l2 l3 l4 l5 l6 n x19 M_18)))))
def L_X9_year_45 (l1 : Int32) (l2 : Int32) (l3 : Int32) : Nat → Int32 → Int32 → Int32 → zMm → Option (Int32 × Int32 × Int32 × zMm)
  | 0, _, _, _, _ => none
  | n + 1, l4, l5, l6, M => if l2 ≤ l6 then some (l4, l5, l6, M) else zb2 (L_X9_year_54 l1 l2 l3 l4 l5 l6 100000 0 M) (fun (x11 : Int32) (M_12 : zMm) => zb1 (f_X9_isClosed M_12) (fun (r14 : Int32) => zb1 (if r14 = 0 then some (0 : Int32) else some (1 : Int32)) (fun (y17 : Int32) => zv (l4 + y17) (fun (x20 : Int32) => zb1 (f_X9_gaps M_12) (fun (r21 : Int32) => zv (l5 + r21) (fun (x23 : Int32) => zv (l6 + 1) (fun (x24 : Int32) => L_X9_year_45 l1 l2 l3 n x20 x23 x24 M_12)))))))
def f_X9_year (M : zMm) (a1 : Int32) (a2 : Int32) (a3 : Int32) : Option (Int32 × zMm) := zb1 (f_X9_in (a1.toInt64) 0 999) (fun (r1 : Int32) => if r1 = 0 then some (((-1) : Int32), M) else zb1 (f_X9_in (a2.toInt64) 1 100) (fun (r4 : Int32) => if r4 = 0 then some (((-1) : Int32), M) else zb1 (f_X9_in (a3.toInt64) 0 1) (fun (r7 : Int32) => if r7 = 0 then some (((-1) : Int32), M) else zb4 (L_X9_year_45 a1 a2 a3 100000 0 0 0 M) (fun (x25 : Int32) (x26 : Int32) (x27 : Int32) (M_28 : zMm) => if a3 = 0 then some (x25, M_28) else some (x26, M_28)))))
abbrev ww_X9_year : List Cond := Cond.code yX9_year cX9_year 8 (some .int) :: wG
theorem q_X9_year : yX9_year.cls = RX9 ∧ yX9_year.cls ≠ "java/lang/invoke/MethodHandle" ∧ yX9_year.cls ≠ "java/lang/invoke/VarHandle" ∧ (parseMethodDescriptor yX9_year.desc).map (fun d => d.parameters.length) = some 3 := by decide +kernel
set_option maxHeartbeats 4000000 in
set_option maxRecDepth 100000 in
theorem c_X9_year (l : Launch) (D : va_G) (cI cB : ClassId) (hM : Nat → Nat) (M : zMm) (a1 : Int32) (a2 : Int32) (a3 : Int32) (r0 : Int32) (M0 : zMm) (hf : f_X9_year M a1 a2 a3 = some (r0, M0)) : zMi l yX9_year ww_X9_year ({ frames := 2, cells := 0, slots := 0, locals := 44 } : Room) D cI cB [.ref (hM 0), .int a1, .int a2, .int a3] (w9 cI cB hM M) r0 (w9 cI cB hM M0) := by
  refine zofI (cc := cX9_year) (maxL := 8) (ret := (some .int)) (by decide +kernel) rfl (Nat.le_of_ble_eq_true rfl) ?_
  intro p e s m below meth c A ls hx hb hml hr hown hts hlocks hK hP hD hS hA hl
  have hl : lv_has ls 8 [(0, .ref (hM 0)), (1, .int a1), (2, .int a2), (3, .int a3)] := hl
  have hown : s.vm.findClass RX9 = some m.cls := hown
  have hG : ∀ w ∈ wG, w ∈ ww_X9_year := fun w h => List.mem_cons_of_mem _ h
  have hi9 : ∀ w ∈ wsX90, w ∈ ww_X9_year := fun w h => List.mem_cons_of_mem _ (z_inX9 w h)
  have L54 : ∀ (l1 : Int32) (l2 : Int32) (l3 : Int32) (l4 : Int32) (l5 : Int32) (l6 : Int32) (n : Nat) (l7 : Int32) (M : zMm) (o7 : Int32) (oM : zMm), L_X9_year_54 l1 l2 l3 l4 l5 l6 n l7 M = some (o7, oM) → zAt p l e ({ frames := 2, cells := 0, slots := 0, locals := 44 } : Room) s m [.ref (hM 0), .int a1, .int a2, .int a3].toArray below meth c (MQ below (zQi D cI cB r0 (w9 cI cB hM M0) A) [.ref (hM 0), .int a1, .int a2, .int a3].toArray s 0 0 A) A D 8 (w9 cI cB hM oM) [(0, .ref (hM 0)), (1, .int l1), (2, .int l2), (3, .int l3), (4, .int l4), (5, .int l5), (6, .int l6), (7, .int o7)] 103 [] → zAt p l e ({ frames := 2, cells := 0, slots := 0, locals := 44 } : Room) s m [.ref (hM 0), .int a1, .int a2, .int a3].toArray below meth c (MQ below (zQi D cI cB r0 (w9 cI cB hM M0) A) [.ref (hM 0), .int a1, .int a2, .int a3].toArray s 0 0 A) A D 8 (w9 cI cB hM M) [(0, .ref (hM 0)), (1, .int l1), (2, .int l2), (3, .int l3), (4, .int l4), (5, .int l5), (6, .int l6), (7, .int l7)] 54 [] := by
    intro l1 l2 l3 l4 l5 l6 n
    induction n with
    | zero => intro l7 M o7 oM hf; simp [L_X9_year_54] at hf
    | succ n ih =>
      intro l7 M o7 oM hf hk H locs ls hP hD hS hl
      rw [L_X9_year_54] at hf
      refine lv_iload hx hb dX9_year_54 (lv_at hl 7 rfl) ?_
      refine lv_aload_n hx hb dX9_year_56 rfl (lv_at hl 0 rfl) ?_
      refine va_get (D := D) (ci := 9) (v := .ref (hM 5)) (C := RX9) (T := TX9) (N := 23) hx hb hts hi9 hown hK hP 0 rfl rfl 6 (Nat.le_of_ble_eq_true rfl) (hts _ (List.mem_cons_of_mem _ wd_658)) (fun _ h9 => h9) rfl dX9_year_57 ?_
      refine lv_iconst (v := 0) hx hb dX9_year_60 (by decide) ?_
      refine va_iald (n := 2) (f := M 6) (cA := cI) hx hb hK hP 5 0 rfl rfl (z_in (by decide)) dX9_year_61 ?_
      refine z_tc (k := 0) (by decide) ?_
      refine lv_icmp_ge (tgt := 103) hx hb dX9_year_62 (by decide) (fun c_11 => ?_) (fun c_11 => ?_)
      · replace hf := zit c_11 hf
        cases hf
        exact hk _ _ _ hP hD hS (lv_sub hl [0, 1, 2, 3, 4, 5, 6, 7] rfl)
      · replace hf := zif c_11 hf
        refine lv_aload_n hx hb dX9_year_65 rfl (lv_at hl 0 rfl) ?_
        refine va_get (D := D) (ci := 9) (v := .ref (hM 14)) (C := RX9) (T := TX9) (N := 23) hx hb hts hi9 hown hK hP 0 rfl rfl 19 (Nat.le_of_ble_eq_true rfl) (hts _ (List.mem_cons_of_mem _ wd_671)) (fun _ h9 => h9) rfl dX9_year_66 ?_
        refine lv_iload hx hb dX9_year_69 (lv_at hl 7 rfl) ?_
        refine lv_aload_n hx hb dX9_year_71 rfl (lv_at hl 0 rfl) ?_
        refine lv_iload hx hb dX9_year_72 (lv_at hl 7 rfl) ?_
        refine lv_iload_n hx hb dX9_year_74 rfl (lv_at hl 1 rfl) ?_
        refine lv_iload hx hb dX9_year_75 (lv_at hl 6 rfl) ?_
        refine lv_iadd hx hb dX9_year_77 ?_
        refine lv_sipush (v := 1000) hx hb dX9_year_78 (by decide) ?_
        refine lv_irem hx hb dX9_year_81 (by decide) ?_
        refine zt (y := zrI (l1 + l6) (1000 : Int32)) rfl ?_
        refine lv_iload hx hb dX9_year_82 (lv_at hl 7 rfl) ?_
        refine lv_aload_n hx hb dX9_year_84 rfl (lv_at hl 0 rfl) ?_
        refine lv_iload hx hb dX9_year_85 (lv_at hl 7 rfl) ?_
        obtain ⟨r12, hq13, hf⟩ := zb1_some hf
        refine zcallVi (ws2 := (w9 cI cB hM M)) (rest := [.int l7, .int (zrI (l1 + l6) (1000 : Int32)), .int l7, .ref (hM 0), .int l7, .ref (hM 14)]) ⟨hx, hb, hml, hown, hts⟩ (c_X9_placeOf l D cI cB hM M l7 r12 hq13) (cwV 1 hts (z_gV hG wd_774 wd_776 wd_s27 wd_15 wd_777) rfl rfl rfl q_X9_placeOf ⟨Nat.le_of_ble_eq_true rfl, Nat.le_of_ble_eq_true rfl⟩) hK hP hD hS hA 9 rfl rfl rfl [0, 9] [1, 2, 3, 4, 5, 6, 7, 8, 10, 11, 12, 13, 14, 15, 16, 17] rfl rfl rfl rfl rfl rfl rfl hl.1 (Nat.le_of_ble_eq_true rfl) dX9_year_87 ⟨Nat.zero_le _, Nat.zero_le _⟩ rfl (fun H locs hP hD hS => ?_)
        obtain ⟨r14, hq15, hf⟩ := zb1_some hf
        refine zcallSi (rest := [.int l7, .ref (hM 0), .int l7, .ref (hM 14)]) ⟨hx, hb, hml, hown, hts⟩ (c_X9_slip l D cI cB (zrI (l1 + l6) (1000 : Int32)) l7 r12 r14 hq15) (z_cwS 3 hts (z_gS hG wd_782 wd_783 wd_15 wd_784) rfl rfl rfl q_X9_slip ⟨Nat.le_of_ble_eq_true rfl, Nat.le_of_ble_eq_true rfl⟩) hK hP hD hS hA rfl hl.1 (Nat.le_of_ble_eq_true rfl) dX9_year_90 ⟨Nat.zero_le _, Nat.zero_le _⟩ rfl (fun H locs hP hD hS => ?_)
        obtain ⟨r16, hq17, hf⟩ := zb1_some hf
        refine zcallVi (ws2 := (w9 cI cB hM M)) (rest := [.int l7, .ref (hM 14)]) ⟨hx, hb, hml, hown, hts⟩ (c_X9_cutOf l D cI cB hM M l7 r14 r16 hq17) (cwV 2 hts (z_gV hG wd_789 wd_791 wd_s29 wd_15 wd_792) rfl rfl rfl q_X9_cutOf ⟨Nat.le_of_ble_eq_true rfl, Nat.le_of_ble_eq_true rfl⟩) hK hP hD hS hA 9 rfl rfl rfl [0, 4, 6] [1, 2, 3, 5, 7, 8, 9, 10, 11, 12, 13, 14, 15, 16, 17] rfl rfl rfl rfl rfl rfl rfl hl.1 (Nat.le_of_ble_eq_true rfl) dX9_year_93 ⟨Nat.zero_le _, Nat.zero_le _⟩ rfl (fun H locs hP hD hS => ?_)
        obtain ⟨i_M_18, M_18, e_M_18, hf⟩ := zw_some hf
        refine va_iast (n := 7) (f := M 19) (cA := cI) hx hb hK hP hD hS 14 0 rfl rfl i_M_18 dX9_year_96 (fun H locs hP hD hS => ?_)
        have hP : va_P D vwCl (w9 cI cB hM (zs M 19 (upd (M 19) l7.toNatClampNeg r16))) H := hP
        have hD : va_D A (w9 cI cB hM (zs M 19 (upd (M 19) l7.toNatClampNeg r16))) := hD
        rw [← e_M_18] at hP hD
        obtain ⟨x19, e_x19, hf⟩ := zv_some hf
        refine lv_iinc (v := x19) (lv' := [(7, .int x19), (0, .ref (hM 0)), (1, .int l1), (2, .int l2), (3, .int l3), (4, .int l4), (5, .int l5), (6, .int l6)]) hx hb dX9_year_97 hl (k := 7) rfl (by rw [e_x19]; rfl) (by decide) rfl (fun ls hl => ?_)
        refine lv_goto (tgt := 54) hx hb dX9_year_100 (by decide) ?_
        exact ih _ _ _ _ hf hk _ _ _ hP hD hS (lv_sub hl [1, 2, 3, 4, 5, 6, 7, 0] rfl)
  have L45 : ∀ (l1 : Int32) (l2 : Int32) (l3 : Int32) (n : Nat) (l4 : Int32) (l5 : Int32) (l6 : Int32) (M : zMm) (o4 : Int32) (o5 : Int32) (o6 : Int32) (oM : zMm), L_X9_year_45 l1 l2 l3 n l4 l5 l6 M = some (o4, o5, o6, oM) → zAt p l e ({ frames := 2, cells := 0, slots := 0, locals := 44 } : Room) s m [.ref (hM 0), .int a1, .int a2, .int a3].toArray below meth c (MQ below (zQi D cI cB r0 (w9 cI cB hM M0) A) [.ref (hM 0), .int a1, .int a2, .int a3].toArray s 0 0 A) A D 8 (w9 cI cB hM oM) [(0, .ref (hM 0)), (1, .int l1), (2, .int l2), (3, .int l3), (4, .int o4), (5, .int o5), (6, .int o6)] 135 [] → zAt p l e ({ frames := 2, cells := 0, slots := 0, locals := 44 } : Room) s m [.ref (hM 0), .int a1, .int a2, .int a3].toArray below meth c (MQ below (zQi D cI cB r0 (w9 cI cB hM M0) A) [.ref (hM 0), .int a1, .int a2, .int a3].toArray s 0 0 A) A D 8 (w9 cI cB hM M) [(0, .ref (hM 0)), (1, .int l1), (2, .int l2), (3, .int l3), (4, .int l4), (5, .int l5), (6, .int l6)] 45 [] := by
    intro l1 l2 l3 n
    induction n with
    | zero => intro l4 l5 l6 M o4 o5 o6 oM hf; simp [L_X9_year_45] at hf
    | succ n ih =>
      intro l4 l5 l6 M o4 o5 o6 oM hf hk H locs ls hP hD hS hl
      rw [L_X9_year_45] at hf
      refine lv_iload hx hb dX9_year_45 (lv_at hl 6 rfl) ?_
      refine lv_iload_n hx hb dX9_year_47 rfl (lv_at hl 2 rfl) ?_
      refine lv_icmp_ge (tgt := 135) hx hb dX9_year_48 (by decide) (fun c_10 => ?_) (fun c_10 => ?_)
      · replace hf := zit c_10 hf
        cases hf
        exact hk _ _ _ hP hD hS (lv_sub hl [0, 1, 2, 3, 4, 5, 6] rfl)
      · replace hf := zif c_10 hf
        refine lv_iconst (v := 0) hx hb dX9_year_51 (by decide) ?_
        refine lv_istore (lv' := [(7, .int 0), (0, .ref (hM 0)), (1, .int l1), (2, .int l2), (3, .int l3), (4, .int l4), (5, .int l5), (6, .int l6)]) hx hb dX9_year_52 hl (by decide) rfl (fun ls hl => ?_)
        obtain ⟨x11, M_12, hq13, hf⟩ := zb2_some hf
        refine L54 _ _ _ _ _ _ _ _ _ _ _ hq13 ?_ _ _ _ hP hD hS (lv_sub hl [1, 2, 3, 4, 5, 6, 7, 0] rfl)
        intro H locs ls hP hD hS hl
        refine lv_iload hx hb dX9_year_103 (lv_at hl 4 rfl) ?_
        refine lv_aload_n hx hb dX9_year_105 rfl (lv_at hl 0 rfl) ?_
        obtain ⟨r14, hq15, hf⟩ := zb1_some hf
        refine zcallVi (ws2 := (w9 cI cB hM M_12)) (rest := [.int l4]) ⟨hx, hb, hml, hown, hts⟩ (c_X9_isClosed l D cI cB hM M_12 r14 hq15) (cwV 0 hts (z_gV hG wd_814 wd_816 wd_s33 wd_15 wd_817) rfl rfl rfl q_X9_isClosed ⟨Nat.le_of_ble_eq_true rfl, Nat.le_of_ble_eq_true rfl⟩) hK hP hD hS hA 9 rfl rfl rfl [0, 2, 7, 8, 14] [1, 3, 4, 5, 6, 9, 10, 11, 12, 13, 15, 16, 17] rfl rfl rfl rfl rfl rfl rfl hl.1 (Nat.le_of_ble_eq_true rfl) dX9_year_106 ⟨Nat.zero_le _, Nat.zero_le _⟩ rfl (fun H locs hP hD hS => ?_)
        obtain ⟨y17, hq18, hf⟩ := zb1_some hf
        have J19 : zAt p l e ({ frames := 2, cells := 0, slots := 0, locals := 44 } : Room) s m [.ref (hM 0), .int a1, .int a2, .int a3].toArray below meth c (MQ below (zQi D cI cB r0 (w9 cI cB hM M0) A) [.ref (hM 0), .int a1, .int a2, .int a3].toArray s 0 0 A) A D 8 (w9 cI cB hM M_12) [(0, .ref (hM 0)), (1, .int l1), (2, .int l2), (3, .int l3), (4, .int l4), (5, .int l5), (6, .int l6), (7, .int x11)] 117 [.int y17, .int l4] := by
          intro H locs ls hP hD hS hl
          refine lv_iadd hx hb dX9_year_117 ?_
          obtain ⟨x20, e_x20, hf⟩ := zv_some hf
          refine zt e_x20 ?_
          refine lv_istore (lv' := [(4, .int x20), (0, .ref (hM 0)), (1, .int l1), (2, .int l2), (3, .int l3), (5, .int l5), (6, .int l6), (7, .int x11)]) hx hb dX9_year_118 hl (by decide) rfl (fun ls hl => ?_)
          refine lv_iload hx hb dX9_year_120 (lv_at hl 5 rfl) ?_
          refine lv_aload_n hx hb dX9_year_122 rfl (lv_at hl 1 rfl) ?_
          obtain ⟨r21, hq22, hf⟩ := zb1_some hf
          refine zcallVi (ws2 := (w9 cI cB hM M_12)) (rest := [.int l5]) ⟨hx, hb, hml, hown, hts⟩ (c_X9_gaps l D cI cB hM M_12 r21 hq22) (cwV 0 hts (z_gV hG wd_802 wd_804 wd_s31 wd_15 wd_805) rfl rfl rfl q_X9_gaps ⟨Nat.le_of_ble_eq_true rfl, Nat.le_of_ble_eq_true rfl⟩) hK hP hD hS hA 9 rfl rfl rfl [0, 7, 8, 14] [1, 2, 3, 4, 5, 6, 9, 10, 11, 12, 13, 15, 16, 17] rfl rfl rfl rfl rfl rfl rfl hl.1 (Nat.le_of_ble_eq_true rfl) dX9_year_123 ⟨Nat.zero_le _, Nat.zero_le _⟩ rfl (fun H locs hP hD hS => ?_)
          refine lv_iadd hx hb dX9_year_126 ?_
          obtain ⟨x23, e_x23, hf⟩ := zv_some hf
          refine zt e_x23 ?_
          refine lv_istore (lv' := [(5, .int x23), (4, .int x20), (0, .ref (hM 0)), (1, .int l1), (2, .int l2), (3, .int l3), (6, .int l6), (7, .int x11)]) hx hb dX9_year_127 hl (by decide) rfl (fun ls hl => ?_)
          obtain ⟨x24, e_x24, hf⟩ := zv_some hf
          refine lv_iinc (v := x24) (lv' := [(6, .int x24), (5, .int x23), (4, .int x20), (0, .ref (hM 0)), (1, .int l1), (2, .int l2), (3, .int l3), (7, .int x11)]) hx hb dX9_year_129 hl (k := 6) rfl (by rw [e_x24]; rfl) (by decide) rfl (fun ls hl => ?_)
          refine lv_goto (tgt := 45) hx hb dX9_year_132 (by decide) ?_
          exact ih _ _ _ _ _ _ _ _ hf hk _ _ _ hP hD hS (lv_sub hl [3, 4, 5, 6, 2, 1, 0] rfl)
        replace hf := hq18
        refine lv_if_eq (tgt := 116) hx hb dX9_year_109 (by decide) (fun c_16 => ?_) (fun c_16 => ?_)
        · replace hf := zit c_16 hf
          refine lv_iconst (v := 0) hx hb dX9_year_116 (by decide) ?_
          cases hf
          exact J19 _ _ _ hP hD hS (lv_sub hl [0, 1, 2, 3, 4, 5, 6, 7] rfl)
        · replace hf := zif c_16 hf
          refine lv_iconst (v := 1) hx hb dX9_year_112 (by decide) ?_
          refine lv_goto (tgt := 117) hx hb dX9_year_113 (by decide) ?_
          cases hf
          exact J19 _ _ _ hP hD hS (lv_sub hl [0, 1, 2, 3, 4, 5, 6, 7] rfl)
  unfold f_X9_year at hf
  refine lv_iload_n hx hb dX9_year_0 rfl (lv_at hl 1 rfl) ?_
  refine lv_i2l hx hb dX9_year_1 rfl ?_
  refine lv_lconst (v := 0) hx hb dX9_year_2 (by decide) ?_
  refine lv_ldc2 (v := 999) hx hb hown (hts _ (List.mem_cons_of_mem _ wd_914)) dX9_year_3 ?_
  obtain ⟨r1, hq2, hf⟩ := zb1_some hf
  refine zcallSi (rest := []) ⟨hx, hb, hml, hown, hts⟩ (c_X9_in l D cI cB (a1.toInt64) 0 999 r1 hq2) (z_cwS 3 hts (z_gS hG wd_727 wd_728 wd_15 wd_729) rfl rfl rfl q_X9_in ⟨Nat.le_of_ble_eq_true rfl, Nat.le_of_ble_eq_true rfl⟩) hK hP hD hS hA rfl hl.1 (Nat.le_of_ble_eq_true rfl) dX9_year_6 ⟨Nat.zero_le _, Nat.zero_le _⟩ rfl (fun H locs hP hD hS => ?_)
  refine lv_if_eq (tgt := 34) hx hb dX9_year_9 (by decide) (fun c_3 => ?_) (fun c_3 => ?_)
  · replace hf := zit c_3 hf
    refine lv_iconst (v := (-1)) hx hb dX9_year_34 (by decide) ?_
    cases hf
    exact zretI hx hb hr hlocks hK hP hD hS dX9_year_35
  · replace hf := zif c_3 hf
    refine lv_iload_n hx hb dX9_year_12 rfl (lv_at hl 2 rfl) ?_
    refine lv_i2l hx hb dX9_year_13 rfl ?_
    refine lv_lconst (v := 1) hx hb dX9_year_14 (by decide) ?_
    refine lv_ldc2 (v := 100) hx hb hown (hts _ (List.mem_cons_of_mem _ wd_915)) dX9_year_15 ?_
    obtain ⟨r4, hq5, hf⟩ := zb1_some hf
    refine zcallSi (rest := []) ⟨hx, hb, hml, hown, hts⟩ (c_X9_in l D cI cB (a2.toInt64) 1 100 r4 hq5) (z_cwS 3 hts (z_gS hG wd_727 wd_728 wd_15 wd_729) rfl rfl rfl q_X9_in ⟨Nat.le_of_ble_eq_true rfl, Nat.le_of_ble_eq_true rfl⟩) hK hP hD hS hA rfl hl.1 (Nat.le_of_ble_eq_true rfl) dX9_year_18 ⟨Nat.zero_le _, Nat.zero_le _⟩ rfl (fun H locs hP hD hS => ?_)
    refine lv_if_eq (tgt := 34) hx hb dX9_year_21 (by decide) (fun c_6 => ?_) (fun c_6 => ?_)
    · replace hf := zit c_6 hf
      refine lv_iconst (v := (-1)) hx hb dX9_year_34 (by decide) ?_
      cases hf
      exact zretI hx hb hr hlocks hK hP hD hS dX9_year_35
    · replace hf := zif c_6 hf
      refine lv_iload_n hx hb dX9_year_24 rfl (lv_at hl 3 rfl) ?_
      refine lv_i2l hx hb dX9_year_25 rfl ?_
      refine lv_lconst (v := 0) hx hb dX9_year_26 (by decide) ?_
      refine lv_lconst (v := 1) hx hb dX9_year_27 (by decide) ?_
      obtain ⟨r7, hq8, hf⟩ := zb1_some hf
      refine zcallSi (rest := []) ⟨hx, hb, hml, hown, hts⟩ (c_X9_in l D cI cB (a3.toInt64) 0 1 r7 hq8) (z_cwS 3 hts (z_gS hG wd_727 wd_728 wd_15 wd_729) rfl rfl rfl q_X9_in ⟨Nat.le_of_ble_eq_true rfl, Nat.le_of_ble_eq_true rfl⟩) hK hP hD hS hA rfl hl.1 (Nat.le_of_ble_eq_true rfl) dX9_year_28 ⟨Nat.zero_le _, Nat.zero_le _⟩ rfl (fun H locs hP hD hS => ?_)
      refine lv_if_ne (tgt := 36) hx hb dX9_year_31 (by decide) (fun c_9 => ?_) (fun c_9 => ?_)
      · replace hf := zif c_9 hf
        refine lv_iconst (v := 0) hx hb dX9_year_36 (by decide) ?_
        refine lv_istore (lv' := [(4, .int 0), (0, .ref (hM 0)), (1, .int a1), (2, .int a2), (3, .int a3)]) hx hb dX9_year_37 hl (by decide) rfl (fun ls hl => ?_)
        refine lv_iconst (v := 0) hx hb dX9_year_39 (by decide) ?_
        refine lv_istore (lv' := [(5, .int 0), (4, .int 0), (0, .ref (hM 0)), (1, .int a1), (2, .int a2), (3, .int a3)]) hx hb dX9_year_40 hl (by decide) rfl (fun ls hl => ?_)
        refine lv_iconst (v := 0) hx hb dX9_year_42 (by decide) ?_
        refine lv_istore (lv' := [(6, .int 0), (5, .int 0), (4, .int 0), (0, .ref (hM 0)), (1, .int a1), (2, .int a2), (3, .int a3)]) hx hb dX9_year_43 hl (by decide) rfl (fun ls hl => ?_)
        obtain ⟨x25, x26, x27, M_28, hq29, hf⟩ := zb4_some hf
        refine L45 _ _ _ _ _ _ _ _ _ _ _ _ hq29 ?_ _ _ _ hP hD hS (lv_sub hl [3, 4, 5, 6, 2, 1, 0] rfl)
        intro H locs ls hP hD hS hl
        refine lv_iload_n hx hb dX9_year_135 rfl (lv_at hl 3 rfl) ?_
        refine lv_if_ne (tgt := 144) hx hb dX9_year_136 (by decide) (fun c_30 => ?_) (fun c_30 => ?_)
        · replace hf := zif c_30 hf
          refine lv_iload hx hb dX9_year_144 (lv_at hl 5 rfl) ?_
          cases hf
          exact zretI hx hb hr hlocks hK hP hD hS dX9_year_146
        · replace hf := zit c_30 hf
          refine lv_iload hx hb dX9_year_139 (lv_at hl 4 rfl) ?_
          refine lv_goto (tgt := 146) hx hb dX9_year_141 (by decide) ?_
          cases hf
          exact zretI hx hb hr hlocks hK hP hD hS dX9_year_146
      · replace hf := zit c_9 hf
        refine lv_iconst (v := (-1)) hx hb dX9_year_34 (by decide) ?_
        cases hf
        exact zretI hx hb hr hlocks hK hP hD hS dX9_year_35
def f_X9_keep (M : zMm) : Option (Int32 × zMm) := if (M 11 0) = 2 then some (((-3) : Int32), M) else zv (zs M 11 (fun _ => (M 11 0) + 1)) (fun (M_2 : zMm) => zb1 (f_X9_copies M_2 0 (M_2 11 0)) (fun (M_3 : zMm) => some (M_3 11 0, M_3)))
abbrev ww_X9_keep : List Cond := Cond.code yX9_keep cX9_keep 1 (some .int) :: wG
theorem q_X9_keep : yX9_keep.cls = RX9 ∧ yX9_keep.cls ≠ "java/lang/invoke/MethodHandle" ∧ yX9_keep.cls ≠ "java/lang/invoke/VarHandle" ∧ (parseMethodDescriptor yX9_keep.desc).map (fun d => d.parameters.length) = some 0 := by decide +kernel
set_option maxHeartbeats 4000000 in
set_option maxRecDepth 100000 in
theorem c_X9_keep (l : Launch) (D : va_G) (cI cB : ClassId) (hM : Nat → Nat) (M : zMm) (r0 : Int32) (M0 : zMm) (hf : f_X9_keep M = some (r0, M0)) : zMi l yX9_keep ww_X9_keep ({ frames := 1, cells := 0, slots := 0, locals := 23 } : Room) D cI cB [.ref (hM 0)] (w9 cI cB hM M) r0 (w9 cI cB hM M0) := by
  refine zofI (cc := cX9_keep) (maxL := 1) (ret := (some .int)) (by decide +kernel) rfl (Nat.le_of_ble_eq_true rfl) ?_
  intro p e s m below meth c A ls hx hb hml hr hown hts hlocks hK hP hD hS hA hl
  have hl : lv_has ls 1 [(0, .ref (hM 0))] := hl
  have hown : s.vm.findClass RX9 = some m.cls := hown
  have hG : ∀ w ∈ wG, w ∈ ww_X9_keep := fun w h => List.mem_cons_of_mem _ h
  have hi9 : ∀ w ∈ wsX90, w ∈ ww_X9_keep := fun w h => List.mem_cons_of_mem _ (z_inX9 w h)
  unfold f_X9_keep at hf
  refine lv_aload_n hx hb dX9_keep_0 rfl (lv_at hl 0 rfl) ?_
  refine va_get (D := D) (ci := 9) (v := .int (M 11 0)) (C := RX9) (T := TX9) (N := 23) hx hb hts hi9 hown hK hP 0 rfl rfl 11 (Nat.le_of_ble_eq_true rfl) (hts _ (List.mem_cons_of_mem _ wd_663)) (fun _ h9 => h9) rfl dX9_keep_1 ?_
  refine lv_iconst (v := 2) hx hb dX9_keep_4 (by decide) ?_
  refine lv_icmp_ne (tgt := 11) hx hb dX9_keep_5 (by decide) (fun c_1 => ?_) (fun c_1 => ?_)
  · replace hf := zif c_1 hf
    refine lv_aload_n hx hb dX9_keep_11 rfl (lv_at hl 0 rfl) ?_
    refine lv_dup hx hb dX9_keep_12 rfl ?_
    refine va_get (D := D) (ci := 9) (v := .int (M 11 0)) (C := RX9) (T := TX9) (N := 23) hx hb hts hi9 hown hK hP 0 rfl rfl 11 (Nat.le_of_ble_eq_true rfl) (hts _ (List.mem_cons_of_mem _ wd_663)) (fun _ h9 => h9) rfl dX9_keep_13 ?_
    refine lv_iconst (v := 1) hx hb dX9_keep_16 (by decide) ?_
    refine lv_iadd hx hb dX9_keep_17 ?_
    obtain ⟨M_2, e_M_2, hf⟩ := zv_some hf
    refine va_put (D := D) (ci := 9) (v := .int ((M 11 0) + 1)) (ty := .int) (C := RX9) (T := TX9) (N := 23) hx hb hts hi9 tyX9 tyX9_ok nmX9 hown hK hP hD hS 0 rfl rfl 11 (Nat.le_of_ble_eq_true rfl) (hts _ (List.mem_cons_of_mem _ wd_663)) (fun _ h9 => h9) rfl (by decide +kernel) rfl rfl (Nat.le_of_ble_eq_true rfl) dX9_keep_18 (fun H locs hP hD hS => ?_)
    have hP : va_P D vwCl (w9 cI cB hM (zs M 11 (fun _ => (M 11 0) + 1))) H := hP
    have hD : va_D A (w9 cI cB hM (zs M 11 (fun _ => (M 11 0) + 1))) := hD
    rw [← e_M_2] at hP hD
    refine lv_aload_n hx hb dX9_keep_21 rfl (lv_at hl 0 rfl) ?_
    refine lv_iconst (v := 0) hx hb dX9_keep_22 (by decide) ?_
    refine lv_aload_n hx hb dX9_keep_23 rfl (lv_at hl 0 rfl) ?_
    refine va_get (D := D) (ci := 9) (v := .int (M_2 11 0)) (C := RX9) (T := TX9) (N := 23) hx hb hts hi9 hown hK hP 0 rfl rfl 11 (Nat.le_of_ble_eq_true rfl) (hts _ (List.mem_cons_of_mem _ wd_663)) (fun _ h9 => h9) rfl dX9_keep_24 ?_
    obtain ⟨M_3, hq4, hf⟩ := zb1_some hf
    refine zcallVv (ws2 := (w9 cI cB hM M_3)) (rest := []) ⟨hx, hb, hml, hown, hts⟩ (c_X9_copies l D cI cB hM M_2 0 (M_2 11 0) M_3 hq4) (cwV 2 hts (z_gV hG wd_826 wd_828 wd_s35 wd_15 wd_829) rfl rfl rfl q_X9_copies ⟨Nat.le_of_ble_eq_true rfl, Nat.le_of_ble_eq_true rfl⟩) hK hP hD hS hA 9 rfl rfl rfl [0, 1, 2, 3, 4, 5, 6, 7, 8, 9, 10, 11, 12, 13, 14, 15, 16, 17] [] rfl rfl rfl rfl rfl rfl rfl hl.1 (Nat.le_of_ble_eq_true rfl) dX9_keep_27 ⟨Nat.zero_le _, Nat.zero_le _⟩ rfl (fun H locs hP hD hS => ?_)
    refine lv_aload_n hx hb dX9_keep_30 rfl (lv_at hl 0 rfl) ?_
    refine va_get (D := D) (ci := 9) (v := .int (M_3 11 0)) (C := RX9) (T := TX9) (N := 23) hx hb hts hi9 hown hK hP 0 rfl rfl 11 (Nat.le_of_ble_eq_true rfl) (hts _ (List.mem_cons_of_mem _ wd_663)) (fun _ h9 => h9) rfl dX9_keep_31 ?_
    cases hf
    exact zretI hx hb hr hlocks hK hP hD hS dX9_keep_34
  · replace hf := zit c_1 hf
    refine lv_bipush (v := (-3)) hx hb dX9_keep_8 (by decide) ?_
    cases hf
    exact zretI hx hb hr hlocks hK hP hD hS dX9_keep_10
def f_X9_back (M : zMm) : Option (Int32 × zMm) := if (M 11 0) = 0 then some (((-2) : Int32), M) else zb1 (f_X9_copies M (M 11 0) 0) (fun (M_2 : zMm) => zv (zs M_2 11 (fun _ => (M_2 11 0) - 1)) (fun (M_4 : zMm) => zv (zs M_4 12 (fun _ => 0)) (fun (M_5 : zMm) => some (M_5 11 0, M_5))))
abbrev ww_X9_back : List Cond := Cond.code yX9_back cX9_back 1 (some .int) :: wG
theorem q_X9_back : yX9_back.cls = RX9 ∧ yX9_back.cls ≠ "java/lang/invoke/MethodHandle" ∧ yX9_back.cls ≠ "java/lang/invoke/VarHandle" ∧ (parseMethodDescriptor yX9_back.desc).map (fun d => d.parameters.length) = some 0 := by decide +kernel
set_option maxHeartbeats 4000000 in
set_option maxRecDepth 100000 in
theorem c_X9_back (l : Launch) (D : va_G) (cI cB : ClassId) (hM : Nat → Nat) (M : zMm) (r0 : Int32) (M0 : zMm) (hf : f_X9_back M = some (r0, M0)) : zMi l yX9_back ww_X9_back ({ frames := 1, cells := 0, slots := 0, locals := 23 } : Room) D cI cB [.ref (hM 0)] (w9 cI cB hM M) r0 (w9 cI cB hM M0) := by
  refine zofI (cc := cX9_back) (maxL := 1) (ret := (some .int)) (by decide +kernel) rfl (Nat.le_of_ble_eq_true rfl) ?_
  intro p e s m below meth c A ls hx hb hml hr hown hts hlocks hK hP hD hS hA hl
  have hl : lv_has ls 1 [(0, .ref (hM 0))] := hl
  have hown : s.vm.findClass RX9 = some m.cls := hown
  have hG : ∀ w ∈ wG, w ∈ ww_X9_back := fun w h => List.mem_cons_of_mem _ h
  have hi9 : ∀ w ∈ wsX90, w ∈ ww_X9_back := fun w h => List.mem_cons_of_mem _ (z_inX9 w h)
  unfold f_X9_back at hf
  refine lv_aload_n hx hb dX9_back_0 rfl (lv_at hl 0 rfl) ?_
  refine va_get (D := D) (ci := 9) (v := .int (M 11 0)) (C := RX9) (T := TX9) (N := 23) hx hb hts hi9 hown hK hP 0 rfl rfl 11 (Nat.le_of_ble_eq_true rfl) (hts _ (List.mem_cons_of_mem _ wd_663)) (fun _ h9 => h9) rfl dX9_back_1 ?_
  refine lv_if_ne (tgt := 10) hx hb dX9_back_4 (by decide) (fun c_1 => ?_) (fun c_1 => ?_)
  · replace hf := zif c_1 hf
    refine lv_aload_n hx hb dX9_back_10 rfl (lv_at hl 0 rfl) ?_
    refine lv_aload_n hx hb dX9_back_11 rfl (lv_at hl 0 rfl) ?_
    refine va_get (D := D) (ci := 9) (v := .int (M 11 0)) (C := RX9) (T := TX9) (N := 23) hx hb hts hi9 hown hK hP 0 rfl rfl 11 (Nat.le_of_ble_eq_true rfl) (hts _ (List.mem_cons_of_mem _ wd_663)) (fun _ h9 => h9) rfl dX9_back_12 ?_
    refine lv_iconst (v := 0) hx hb dX9_back_15 (by decide) ?_
    obtain ⟨M_2, hq3, hf⟩ := zb1_some hf
    refine zcallVv (ws2 := (w9 cI cB hM M_2)) (rest := []) ⟨hx, hb, hml, hown, hts⟩ (c_X9_copies l D cI cB hM M (M 11 0) 0 M_2 hq3) (cwV 2 hts (z_gV hG wd_826 wd_828 wd_s35 wd_15 wd_829) rfl rfl rfl q_X9_copies ⟨Nat.le_of_ble_eq_true rfl, Nat.le_of_ble_eq_true rfl⟩) hK hP hD hS hA 9 rfl rfl rfl [0, 1, 2, 3, 4, 5, 6, 7, 8, 9, 10, 11, 12, 13, 14, 15, 16, 17] [] rfl rfl rfl rfl rfl rfl rfl hl.1 (Nat.le_of_ble_eq_true rfl) dX9_back_16 ⟨Nat.zero_le _, Nat.zero_le _⟩ rfl (fun H locs hP hD hS => ?_)
    refine lv_aload_n hx hb dX9_back_19 rfl (lv_at hl 0 rfl) ?_
    refine lv_dup hx hb dX9_back_20 rfl ?_
    refine va_get (D := D) (ci := 9) (v := .int (M_2 11 0)) (C := RX9) (T := TX9) (N := 23) hx hb hts hi9 hown hK hP 0 rfl rfl 11 (Nat.le_of_ble_eq_true rfl) (hts _ (List.mem_cons_of_mem _ wd_663)) (fun _ h9 => h9) rfl dX9_back_21 ?_
    refine lv_iconst (v := 1) hx hb dX9_back_24 (by decide) ?_
    refine lv_isub hx hb dX9_back_25 ?_
    obtain ⟨M_4, e_M_4, hf⟩ := zv_some hf
    refine va_put (D := D) (ci := 9) (v := .int ((M_2 11 0) - 1)) (ty := .int) (C := RX9) (T := TX9) (N := 23) hx hb hts hi9 tyX9 tyX9_ok nmX9 hown hK hP hD hS 0 rfl rfl 11 (Nat.le_of_ble_eq_true rfl) (hts _ (List.mem_cons_of_mem _ wd_663)) (fun _ h9 => h9) rfl (by decide +kernel) rfl rfl (Nat.le_of_ble_eq_true rfl) dX9_back_26 (fun H locs hP hD hS => ?_)
    have hP : va_P D vwCl (w9 cI cB hM (zs M_2 11 (fun _ => (M_2 11 0) - 1))) H := hP
    have hD : va_D A (w9 cI cB hM (zs M_2 11 (fun _ => (M_2 11 0) - 1))) := hD
    rw [← e_M_4] at hP hD
    refine lv_aload_n hx hb dX9_back_29 rfl (lv_at hl 0 rfl) ?_
    refine lv_iconst (v := 0) hx hb dX9_back_30 (by decide) ?_
    obtain ⟨M_5, e_M_5, hf⟩ := zv_some hf
    refine va_put (D := D) (ci := 9) (v := .int 0) (ty := .int) (C := RX9) (T := TX9) (N := 23) hx hb hts hi9 tyX9 tyX9_ok nmX9 hown hK hP hD hS 0 rfl rfl 12 (Nat.le_of_ble_eq_true rfl) (hts _ (List.mem_cons_of_mem _ wd_664)) (fun _ h9 => h9) rfl (by decide +kernel) rfl rfl (Nat.le_of_ble_eq_true rfl) dX9_back_31 (fun H locs hP hD hS => ?_)
    have hP : va_P D vwCl (w9 cI cB hM (zs M_4 12 (fun _ => 0))) H := hP
    have hD : va_D A (w9 cI cB hM (zs M_4 12 (fun _ => 0))) := hD
    rw [← e_M_5] at hP hD
    refine lv_aload_n hx hb dX9_back_34 rfl (lv_at hl 0 rfl) ?_
    refine va_get (D := D) (ci := 9) (v := .int (M_5 11 0)) (C := RX9) (T := TX9) (N := 23) hx hb hts hi9 hown hK hP 0 rfl rfl 11 (Nat.le_of_ble_eq_true rfl) (hts _ (List.mem_cons_of_mem _ wd_663)) (fun _ h9 => h9) rfl dX9_back_35 ?_
    cases hf
    exact zretI hx hb hr hlocks hK hP hD hS dX9_back_38
  · replace hf := zit c_1 hf
    refine lv_bipush (v := (-2)) hx hb dX9_back_7 (by decide) ?_
    cases hf
    exact zretI hx hb hr hlocks hK hP hD hS dX9_back_9
def f_X9_count (M : zMm) (a1 : Int32) : Option (Int32) := if a1 = 0 then some (M 4 0) else if a1 = 1 then some (M 6 0) else if a1 = 2 then some (M 8 0) else if a1 = 3 then some (M 13 0) else if a1 = 4 then some (M 15 0) else if a1 = 5 then some (M 12 0) else if a1 = 6 then some (M 11 0) else if a1 = 7 then some (M 0 0) else some ((-1) : Int32)
abbrev ww_X9_count : List Cond := Cond.code yX9_count cX9_count 2 (some .int) :: wG
theorem q_X9_count : yX9_count.cls = RX9 ∧ yX9_count.cls ≠ "java/lang/invoke/MethodHandle" ∧ yX9_count.cls ≠ "java/lang/invoke/VarHandle" ∧ (parseMethodDescriptor yX9_count.desc).map (fun d => d.parameters.length) = some 1 := by decide +kernel
set_option maxHeartbeats 4000000 in
set_option maxRecDepth 100000 in
theorem c_X9_count (l : Launch) (D : va_G) (cI cB : ClassId) (hM : Nat → Nat) (M : zMm) (a1 : Int32) (r0 : Int32) (hf : f_X9_count M a1 = some r0) : zMi l yX9_count ww_X9_count ({ frames := 0, cells := 0, slots := 0, locals := 0 } : Room) D cI cB [.ref (hM 0), .int a1] [k9_0 cI cB hM M, k9_3 cI cB hM M, k9_5 cI cB hM M, k9_7 cI cB hM M] r0 [k9_0 cI cB hM M, k9_3 cI cB hM M, k9_5 cI cB hM M, k9_7 cI cB hM M] := by
  refine zofI (cc := cX9_count) (maxL := 2) (ret := (some .int)) (by decide +kernel) rfl (Nat.le_of_ble_eq_true rfl) ?_
  intro p e s m below meth c A ls hx hb hml hr hown hts hlocks hK hP hD hS hA hl
  have hl : lv_has ls 2 [(0, .ref (hM 0)), (1, .int a1)] := hl
  have hown : s.vm.findClass RX9 = some m.cls := hown
  have hG : ∀ w ∈ wG, w ∈ ww_X9_count := fun w h => List.mem_cons_of_mem _ h
  have hi9 : ∀ w ∈ wsX90, w ∈ ww_X9_count := fun w h => List.mem_cons_of_mem _ (z_inX9 w h)
  unfold f_X9_count at hf
  refine lv_iload_n hx hb dX9_count_0 rfl (lv_at hl 1 rfl) ?_
  by_cases c_1 : a1 = 0
  · replace hf := zit c_1 hf
    refine zt c_1.symm ?_
    refine lv_tableIn (tgt := 48) hx hb dX9_count_1 (by decide) (by decide) rfl (by decide) ?_
    refine lv_aload_n hx hb dX9_count_48 rfl (lv_at hl 0 rfl) ?_
    refine va_get (D := D) (ci := 9) (v := .ref (hM 3)) (C := RX9) (T := TX9) (N := 23) hx hb hts hi9 hown hK hP 0 rfl rfl 4 (Nat.le_of_ble_eq_true rfl) (hts _ (List.mem_cons_of_mem _ wd_656)) (fun _ h9 => h9) rfl dX9_count_49 ?_
    refine lv_iconst (v := 0) hx hb dX9_count_52 (by decide) ?_
    refine va_iald (n := 2) (f := M 4) (cA := cI) hx hb hK hP 1 0 rfl rfl (z_in (by decide)) dX9_count_53 ?_
    refine z_tc (k := 0) (by decide) ?_
    cases hf
    exact zretI hx hb hr hlocks hK hP hD hS dX9_count_54
  · replace hf := zif c_1 hf
    by_cases c_2 : a1 = 1
    · replace hf := zit c_2 hf
      refine zt c_2.symm ?_
      refine lv_tableIn (tgt := 55) hx hb dX9_count_1 (by decide) (by decide) rfl (by decide) ?_
      refine lv_aload_n hx hb dX9_count_55 rfl (lv_at hl 0 rfl) ?_
      refine va_get (D := D) (ci := 9) (v := .ref (hM 5)) (C := RX9) (T := TX9) (N := 23) hx hb hts hi9 hown hK hP 0 rfl rfl 6 (Nat.le_of_ble_eq_true rfl) (hts _ (List.mem_cons_of_mem _ wd_658)) (fun _ h9 => h9) rfl dX9_count_56 ?_
      refine lv_iconst (v := 0) hx hb dX9_count_59 (by decide) ?_
      refine va_iald (n := 2) (f := M 6) (cA := cI) hx hb hK hP 2 0 rfl rfl (z_in (by decide)) dX9_count_60 ?_
      refine z_tc (k := 0) (by decide) ?_
      cases hf
      exact zretI hx hb hr hlocks hK hP hD hS dX9_count_61
    · replace hf := zif c_2 hf
      by_cases c_3 : a1 = 2
      · replace hf := zit c_3 hf
        refine zt c_3.symm ?_
        refine lv_tableIn (tgt := 62) hx hb dX9_count_1 (by decide) (by decide) rfl (by decide) ?_
        refine lv_aload_n hx hb dX9_count_62 rfl (lv_at hl 0 rfl) ?_
        refine va_get (D := D) (ci := 9) (v := .ref (hM 7)) (C := RX9) (T := TX9) (N := 23) hx hb hts hi9 hown hK hP 0 rfl rfl 8 (Nat.le_of_ble_eq_true rfl) (hts _ (List.mem_cons_of_mem _ wd_660)) (fun _ h9 => h9) rfl dX9_count_63 ?_
        refine lv_iconst (v := 0) hx hb dX9_count_66 (by decide) ?_
        refine va_iald (n := 2) (f := M 8) (cA := cI) hx hb hK hP 3 0 rfl rfl (z_in (by decide)) dX9_count_67 ?_
        refine z_tc (k := 0) (by decide) ?_
        cases hf
        exact zretI hx hb hr hlocks hK hP hD hS dX9_count_68
      · replace hf := zif c_3 hf
        by_cases c_4 : a1 = 3
        · replace hf := zit c_4 hf
          refine zt c_4.symm ?_
          refine lv_tableIn (tgt := 69) hx hb dX9_count_1 (by decide) (by decide) rfl (by decide) ?_
          refine lv_aload_n hx hb dX9_count_69 rfl (lv_at hl 0 rfl) ?_
          refine va_get (D := D) (ci := 9) (v := .int (M 13 0)) (C := RX9) (T := TX9) (N := 23) hx hb hts hi9 hown hK hP 0 rfl rfl 13 (Nat.le_of_ble_eq_true rfl) (hts _ (List.mem_cons_of_mem _ wd_665)) (fun _ h9 => h9) rfl dX9_count_70 ?_
          cases hf
          exact zretI hx hb hr hlocks hK hP hD hS dX9_count_73
        · replace hf := zif c_4 hf
          by_cases c_5 : a1 = 4
          · replace hf := zit c_5 hf
            refine zt c_5.symm ?_
            refine lv_tableIn (tgt := 74) hx hb dX9_count_1 (by decide) (by decide) rfl (by decide) ?_
            refine lv_aload_n hx hb dX9_count_74 rfl (lv_at hl 0 rfl) ?_
            refine va_get (D := D) (ci := 9) (v := .int (M 15 0)) (C := RX9) (T := TX9) (N := 23) hx hb hts hi9 hown hK hP 0 rfl rfl 15 (Nat.le_of_ble_eq_true rfl) (hts _ (List.mem_cons_of_mem _ wd_667)) (fun _ h9 => h9) rfl dX9_count_75 ?_
            cases hf
            exact zretI hx hb hr hlocks hK hP hD hS dX9_count_78
          · replace hf := zif c_5 hf
            by_cases c_6 : a1 = 5
            · replace hf := zit c_6 hf
              refine zt c_6.symm ?_
              refine lv_tableIn (tgt := 79) hx hb dX9_count_1 (by decide) (by decide) rfl (by decide) ?_
              refine lv_aload_n hx hb dX9_count_79 rfl (lv_at hl 0 rfl) ?_
              refine va_get (D := D) (ci := 9) (v := .int (M 12 0)) (C := RX9) (T := TX9) (N := 23) hx hb hts hi9 hown hK hP 0 rfl rfl 12 (Nat.le_of_ble_eq_true rfl) (hts _ (List.mem_cons_of_mem _ wd_664)) (fun _ h9 => h9) rfl dX9_count_80 ?_
              cases hf
              exact zretI hx hb hr hlocks hK hP hD hS dX9_count_83
            · replace hf := zif c_6 hf
              by_cases c_7 : a1 = 6
              · replace hf := zit c_7 hf
                refine zt c_7.symm ?_
                refine lv_tableIn (tgt := 84) hx hb dX9_count_1 (by decide) (by decide) rfl (by decide) ?_
                refine lv_aload_n hx hb dX9_count_84 rfl (lv_at hl 0 rfl) ?_
                refine va_get (D := D) (ci := 9) (v := .int (M 11 0)) (C := RX9) (T := TX9) (N := 23) hx hb hts hi9 hown hK hP 0 rfl rfl 11 (Nat.le_of_ble_eq_true rfl) (hts _ (List.mem_cons_of_mem _ wd_663)) (fun _ h9 => h9) rfl dX9_count_85 ?_
                cases hf
                exact zretI hx hb hr hlocks hK hP hD hS dX9_count_88
              · replace hf := zif c_7 hf
                by_cases c_8 : a1 = 7
                · replace hf := zit c_8 hf
                  refine zt c_8.symm ?_
                  refine lv_tableIn (tgt := 89) hx hb dX9_count_1 (by decide) (by decide) rfl (by decide) ?_
                  refine lv_aload_n hx hb dX9_count_89 rfl (lv_at hl 0 rfl) ?_
                  refine va_get (D := D) (ci := 9) (v := .int (M 0 0)) (C := RX9) (T := TX9) (N := 23) hx hb hts hi9 hown hK hP 0 rfl rfl 0 (Nat.le_of_ble_eq_true rfl) (hts _ (List.mem_cons_of_mem _ wd_652)) (fun _ h9 => h9) rfl dX9_count_90 ?_
                  cases hf
                  exact zretI hx hb hr hlocks hK hP hD hS dX9_count_93
                · replace hf := zif c_8 hf
                  refine lv_tableOut (tgt := 94) hx hb dX9_count_1 (zsw_out (lo := 0) (hi := 7) (by decide) (fun k h1 h2 => by rcases (show k = 0 ∨ k = 1 ∨ k = 2 ∨ k = 3 ∨ k = 4 ∨ k = 5 ∨ k = 6 ∨ k = 7 by omega) with rfl | rfl | rfl | rfl | rfl | rfl | rfl | rfl <;> assumption)) (by decide) ?_
                  refine lv_iconst (v := (-1)) hx hb dX9_count_94 (by decide) ?_
                  cases hf
                  exact zretI hx hb hr hlocks hK hP hD hS dX9_count_95
