/-! the law, call by call -/
set_option maxHeartbeats 4000000 in
set_option maxRecDepth 100000 in
theorem law_write {p : Program} {l : Launch} {e : Env} {s : State} {m : MethodId} {below : List Frame} {meth : Method} {c : Code} {b L : Nat} {xs : Nat → Int32} {A : Nat → Prop} {D : va_G} {cI cB : ClassId} (hL : L ≤ 2048) (C : zLC p s m c b L xs A D cI cB) {i : Nat} (hi : i + 4 ≤ L) {hX hM : Nat → Nat} {X M : zMm} (hI : Inv X M) (kk : ∀ (hX2 : Nat → Nat) (X2 M2 : zMm), Inv X2 M2 → zAtL p l e s m below meth c b A D cI cB hX2 hM X2 M2 i 790) : zAtL p l e s m below meth c b A D cI cB hX hM X M i 152 := by
  obtain ⟨hx, hb, hml, hown, hts, hXs, hbA, hbl, hK, hA⟩ := C
  intro H locs ls hP hD hS hl
  refine lv_aload_n hx hb dL_law_152 rfl (lv_at hl 1 rfl) ?_
  refine lv_aload_n hx hb dL_law_153 rfl (lv_at hl 0 rfl) ?_
  refine lv_iload_n hx hb dL_law_154 rfl (lv_at hl 3 rfl) ?_
  refine lv_iconst (v := 1) hx hb dL_law_155 (by decide) ?_
  refine lv_iadd hx hb dL_law_156 ?_
  refine zt (ad1 i) ?_
  refine va_sld hx hb hXs hbl hbA hS (vp_in_nI (by omega) (by omega)) dL_law_157 ?_
  refine z_tc (f := xs) (nI_clamp (by omega)) ?_
  refine lv_aload_n hx hb dL_law_158 rfl (lv_at hl 0 rfl) ?_
  refine lv_iload_n hx hb dL_law_159 rfl (lv_at hl 3 rfl) ?_
  refine lv_iconst (v := 2) hx hb dL_law_160 (by decide) ?_
  refine lv_iadd hx hb dL_law_161 ?_
  refine zt (ad2 i) ?_
  refine va_sld hx hb hXs hbl hbA hS (vp_in_nI (by omega) (by omega)) dL_law_162 ?_
  refine z_tc (f := xs) (nI_clamp (by omega)) ?_
  refine lv_i2l hx hb dL_law_163 rfl ?_
  refine lv_bipush (v := 32) hx hb dL_law_164 (by decide) ?_
  refine lv_lshl hx hb dL_law_166 rfl ?_
  refine lv_aload_n hx hb dL_law_167 rfl (lv_at hl 0 rfl) ?_
  refine lv_iload_n hx hb dL_law_168 rfl (lv_at hl 3 rfl) ?_
  refine lv_iconst (v := 3) hx hb dL_law_169 (by decide) ?_
  refine lv_iadd hx hb dL_law_170 ?_
  refine zt (ad3 i) ?_
  refine va_sld hx hb hXs hbl hbA hS (vp_in_nI (by omega) (by omega)) dL_law_171 ?_
  refine z_tc (f := xs) (nI_clamp (by omega)) ?_
  refine lv_i2l hx hb dL_law_172 rfl ?_
  refine lv_ldc2 hx hb hown (hts _ (wG_in wd_928)) dL_law_173 ?_
  refine lv_land hx hb dL_law_176 ?_
  refine lv_lor hx hb dL_law_177 ?_
  refine lv_topl (fun v ev => ?_)
  obtain ⟨r, X2, M2, f1, f2, hI2⟩ := q_write hI (xs (i + 1)) v
  refine zcallL (As := [.int (xs (i + 1)), .long v]) (rest := []) ⟨hx, hb, hml, hown, hts⟩ (c_X8_write l D cI cB hX X (xs (i + 1)) v r X2 f1) (cwV 2 hts (z_gV (fun w h => wG_in h) wd_386 wd_387 wd_388 wd_1 wd_389) rfl rfl rfl q_X8_write ⟨Nat.le_of_ble_eq_true rfl, Nat.le_of_ble_eq_true rfl⟩) hK hP hD hS hA 8 rfl rfl rfl rfl hl.1 (Nat.le_of_ble_eq_true rfl) dL_law_178 ⟨Nat.le_of_ble_eq_true rfl, Nat.le_of_ble_eq_true rfl⟩ rfl (fun H locs hP hD hS => ?_)
  refine lv_aload_n hx hb dL_law_181 rfl (lv_at hl 2 rfl) ?_
  refine lv_aload_n hx hb dL_law_182 rfl (lv_at hl 0 rfl) ?_
  refine lv_iload_n hx hb dL_law_183 rfl (lv_at hl 3 rfl) ?_
  refine lv_iconst (v := 1) hx hb dL_law_184 (by decide) ?_
  refine lv_iadd hx hb dL_law_185 ?_
  refine zt (ad1 i) ?_
  refine va_sld hx hb hXs hbl hbA hS (vp_in_nI (by omega) (by omega)) dL_law_186 ?_
  refine z_tc (f := xs) (nI_clamp (by omega)) ?_
  refine lv_aload_n hx hb dL_law_187 rfl (lv_at hl 0 rfl) ?_
  refine lv_iload_n hx hb dL_law_188 rfl (lv_at hl 3 rfl) ?_
  refine lv_iconst (v := 2) hx hb dL_law_189 (by decide) ?_
  refine lv_iadd hx hb dL_law_190 ?_
  refine zt (ad2 i) ?_
  refine va_sld hx hb hXs hbl hbA hS (vp_in_nI (by omega) (by omega)) dL_law_191 ?_
  refine z_tc (f := xs) (nI_clamp (by omega)) ?_
  refine lv_i2l hx hb dL_law_192 rfl ?_
  refine lv_bipush (v := 32) hx hb dL_law_193 (by decide) ?_
  refine lv_lshl hx hb dL_law_195 rfl ?_
  refine lv_aload_n hx hb dL_law_196 rfl (lv_at hl 0 rfl) ?_
  refine lv_iload_n hx hb dL_law_197 rfl (lv_at hl 3 rfl) ?_
  refine lv_iconst (v := 3) hx hb dL_law_198 (by decide) ?_
  refine lv_iadd hx hb dL_law_199 ?_
  refine zt (ad3 i) ?_
  refine va_sld hx hb hXs hbl hbA hS (vp_in_nI (by omega) (by omega)) dL_law_200 ?_
  refine z_tc (f := xs) (nI_clamp (by omega)) ?_
  refine lv_i2l hx hb dL_law_201 rfl ?_
  refine lv_ldc2 hx hb hown (hts _ (wG_in wd_928)) dL_law_202 ?_
  refine lv_land hx hb dL_law_205 ?_
  refine lv_lor hx hb dL_law_206 ?_
  refine ztL ev ?_
  refine zcallL (As := [.int (xs (i + 1)), .long v]) (rest := [.int r]) ⟨hx, hb, hml, hown, hts⟩ (c_X9_write l D cI cB hM M (xs (i + 1)) v r M2 f2) (cwV 2 hts (z_gV (fun w h => wG_in h) wd_722 wd_723 wd_724 wd_15 wd_725) rfl rfl rfl q_X9_write ⟨Nat.le_of_ble_eq_true rfl, Nat.le_of_ble_eq_true rfl⟩) hK hP hD hS hA 9 rfl rfl rfl rfl hl.1 (Nat.le_of_ble_eq_true rfl) dL_law_207 ⟨Nat.le_of_ble_eq_true rfl, Nat.le_of_ble_eq_true rfl⟩ rfl (fun H locs hP hD hS => ?_)
  refine lv_icmp_eq (tgt := 790) hx hb dL_law_210 (by decide) (fun _ => ?_) (fun c => absurd rfl c)
  exact kk hX X2 M2 hI2 _ _ _ hP hD hS hl
set_option maxHeartbeats 4000000 in
set_option maxRecDepth 100000 in
theorem law_wipe {p : Program} {l : Launch} {e : Env} {s : State} {m : MethodId} {below : List Frame} {meth : Method} {c : Code} {b L : Nat} {xs : Nat → Int32} {A : Nat → Prop} {D : va_G} {cI cB : ClassId} (hL : L ≤ 2048) (C : zLC p s m c b L xs A D cI cB) {i : Nat} (hi : i + 4 ≤ L) {hX hM : Nat → Nat} {X M : zMm} (hI : Inv X M) (kk : ∀ (hX2 : Nat → Nat) (X2 M2 : zMm), Inv X2 M2 → zAtL p l e s m below meth c b A D cI cB hX2 hM X2 M2 i 790) : zAtL p l e s m below meth c b A D cI cB hX hM X M i 215 := by
  obtain ⟨hx, hb, hml, hown, hts, hXs, hbA, hbl, hK, hA⟩ := C
  intro H locs ls hP hD hS hl
  obtain ⟨r, X2, M2, f1, f2, hI2⟩ := q_wipe hI
  refine lv_aload_n hx hb dL_law_215 rfl (lv_at hl 1 rfl) ?_
  refine zcallL (As := []) (rest := []) ⟨hx, hb, hml, hown, hts⟩ (c_X8_wipe l D cI cB hX X r X2 f1) (cwV 0 hts (z_gV (fun w h => wG_in h) wd_390 wd_391 wd_392 wd_1 wd_393) rfl rfl rfl q_X8_wipe ⟨Nat.le_of_ble_eq_true rfl, Nat.le_of_ble_eq_true rfl⟩) hK hP hD hS hA 8 rfl rfl rfl rfl hl.1 (Nat.le_of_ble_eq_true rfl) dL_law_216 ⟨Nat.le_of_ble_eq_true rfl, Nat.le_of_ble_eq_true rfl⟩ rfl (fun H locs hP hD hS => ?_)
  refine lv_aload_n hx hb dL_law_219 rfl (lv_at hl 2 rfl) ?_
  refine zcallL (As := []) (rest := [.int r]) ⟨hx, hb, hml, hown, hts⟩ (c_X9_wipe l D cI cB hM M r M2 f2) (cwV 0 hts (z_gV (fun w h => wG_in h) wd_730 wd_731 wd_732 wd_15 wd_733) rfl rfl rfl q_X9_wipe ⟨Nat.le_of_ble_eq_true rfl, Nat.le_of_ble_eq_true rfl⟩) hK hP hD hS hA 9 rfl rfl rfl rfl hl.1 (Nat.le_of_ble_eq_true rfl) dL_law_220 ⟨Nat.le_of_ble_eq_true rfl, Nat.le_of_ble_eq_true rfl⟩ rfl (fun H locs hP hD hS => ?_)
  refine lv_icmp_eq (tgt := 790) hx hb dL_law_223 (by decide) (fun _ => ?_) (fun c => absurd rfl c)
  exact kk hX X2 M2 hI2 _ _ _ hP hD hS hl
set_option maxHeartbeats 4000000 in
set_option maxRecDepth 100000 in
theorem law_fault {p : Program} {l : Launch} {e : Env} {s : State} {m : MethodId} {below : List Frame} {meth : Method} {c : Code} {b L : Nat} {xs : Nat → Int32} {A : Nat → Prop} {D : va_G} {cI cB : ClassId} (hL : L ≤ 2048) (C : zLC p s m c b L xs A D cI cB) {i : Nat} (hi : i + 4 ≤ L) {hX hM : Nat → Nat} {X M : zMm} (hI : Inv X M) (kk : ∀ (hX2 : Nat → Nat) (X2 M2 : zMm), Inv X2 M2 → zAtL p l e s m below meth c b A D cI cB hX2 hM X2 M2 i 790) : zAtL p l e s m below meth c b A D cI cB hX hM X M i 228 := by
  obtain ⟨hx, hb, hml, hown, hts, hXs, hbA, hbl, hK, hA⟩ := C
  intro H locs ls hP hD hS hl
  obtain ⟨r, X2, M2, f1, f2, hI2⟩ := q_fault hI
  refine lv_aload_n hx hb dL_law_228 rfl (lv_at hl 1 rfl) ?_
  refine zcallL (As := []) (rest := []) ⟨hx, hb, hml, hown, hts⟩ (c_X8_fault l D cI cB hX X r X2 f1) (cwV 0 hts (z_gV (fun w h => wG_in h) wd_394 wd_395 wd_396 wd_1 wd_397) rfl rfl rfl q_X8_fault ⟨Nat.le_of_ble_eq_true rfl, Nat.le_of_ble_eq_true rfl⟩) hK hP hD hS hA 8 rfl rfl rfl rfl hl.1 (Nat.le_of_ble_eq_true rfl) dL_law_229 ⟨Nat.le_of_ble_eq_true rfl, Nat.le_of_ble_eq_true rfl⟩ rfl (fun H locs hP hD hS => ?_)
  refine lv_aload_n hx hb dL_law_232 rfl (lv_at hl 2 rfl) ?_
  refine zcallL (As := []) (rest := [.int r]) ⟨hx, hb, hml, hown, hts⟩ (c_X9_fault l D cI cB hM M r M2 f2) (cwV 0 hts (z_gV (fun w h => wG_in h) wd_734 wd_735 wd_736 wd_15 wd_737) rfl rfl rfl q_X9_fault ⟨Nat.le_of_ble_eq_true rfl, Nat.le_of_ble_eq_true rfl⟩) hK hP hD hS hA 9 rfl rfl rfl rfl hl.1 (Nat.le_of_ble_eq_true rfl) dL_law_233 ⟨Nat.le_of_ble_eq_true rfl, Nat.le_of_ble_eq_true rfl⟩ rfl (fun H locs hP hD hS => ?_)
  refine lv_icmp_eq (tgt := 790) hx hb dL_law_236 (by decide) (fun _ => ?_) (fun c => absurd rfl c)
  exact kk hX X2 M2 hI2 _ _ _ hP hD hS hl
set_option maxHeartbeats 4000000 in
set_option maxRecDepth 100000 in
theorem law_lay {p : Program} {l : Launch} {e : Env} {s : State} {m : MethodId} {below : List Frame} {meth : Method} {c : Code} {b L : Nat} {xs : Nat → Int32} {A : Nat → Prop} {D : va_G} {cI cB : ClassId} (hL : L ≤ 2048) (C : zLC p s m c b L xs A D cI cB) {i : Nat} (hi : i + 4 ≤ L) {hX hM : Nat → Nat} {X M : zMm} (hI : Inv X M) (kk : ∀ (hX2 : Nat → Nat) (X2 M2 : zMm), Inv X2 M2 → zAtL p l e s m below meth c b A D cI cB hX2 hM X2 M2 i 790) : zAtL p l e s m below meth c b A D cI cB hX hM X M i 241 := by
  obtain ⟨hx, hb, hml, hown, hts, hXs, hbA, hbl, hK, hA⟩ := C
  intro H locs ls hP hD hS hl
  obtain ⟨r, b0, X2, M2, f1, f2, hI2⟩ := q_lay hI
  refine lv_aload_n hx hb dL_law_241 rfl (lv_at hl 1 rfl) ?_
  refine zcallL (As := []) (rest := []) ⟨hx, hb, hml, hown, hts⟩ (c_X8_lay l D cI cB hX X r b0 X2 f1) (cwV 0 hts (z_gV (fun w h => wG_in h) wd_398 wd_399 wd_400 wd_1 wd_401) rfl rfl rfl q_X8_lay ⟨Nat.le_of_ble_eq_true rfl, Nat.le_of_ble_eq_true rfl⟩) hK hP hD hS hA 8 rfl rfl rfl rfl hl.1 (Nat.le_of_ble_eq_true rfl) dL_law_242 ⟨Nat.le_of_ble_eq_true rfl, Nat.le_of_ble_eq_true rfl⟩ rfl (fun H locs hP hD hS => ?_)
  refine lv_aload_n hx hb dL_law_245 rfl (lv_at hl 2 rfl) ?_
  refine zcallL (As := []) (rest := [.int r]) ⟨hx, hb, hml, hown, hts⟩ (c_X9_lay l D cI cB hM M r M2 f2) (cwV 0 hts (z_gV (fun w h => wG_in h) wd_760 wd_761 wd_762 wd_15 wd_763) rfl rfl rfl q_X9_lay ⟨Nat.le_of_ble_eq_true rfl, Nat.le_of_ble_eq_true rfl⟩) hK hP hD hS hA 9 rfl rfl rfl rfl hl.1 (Nat.le_of_ble_eq_true rfl) dL_law_246 ⟨Nat.le_of_ble_eq_true rfl, Nat.le_of_ble_eq_true rfl⟩ rfl (fun H locs hP hD hS => ?_)
  refine lv_icmp_eq (tgt := 790) hx hb dL_law_249 (by decide) (fun _ => ?_) (fun c => absurd rfl c)
  exact kk (zhs b0 hX) X2 M2 hI2 _ _ _ hP hD hS (by cases b0 <;> exact hl)
set_option maxHeartbeats 4000000 in
set_option maxRecDepth 100000 in
theorem law_part {p : Program} {l : Launch} {e : Env} {s : State} {m : MethodId} {below : List Frame} {meth : Method} {c : Code} {b L : Nat} {xs : Nat → Int32} {A : Nat → Prop} {D : va_G} {cI cB : ClassId} (hL : L ≤ 2048) (C : zLC p s m c b L xs A D cI cB) {i : Nat} (hi : i + 4 ≤ L) {hX hM : Nat → Nat} {X M : zMm} (hI : Inv X M) (kk : ∀ (hX2 : Nat → Nat) (X2 M2 : zMm), Inv X2 M2 → zAtL p l e s m below meth c b A D cI cB hX2 hM X2 M2 i 790) : zAtL p l e s m below meth c b A D cI cB hX hM X M i 254 := by
  obtain ⟨hx, hb, hml, hown, hts, hXs, hbA, hbl, hK, hA⟩ := C
  intro H locs ls hP hD hS hl
  obtain ⟨r, f1, f2⟩ := q_part hI (xs (i + 1)) (xs (i + 2))
  refine lv_aload_n hx hb dL_law_254 rfl (lv_at hl 1 rfl) ?_
  refine lv_aload_n hx hb dL_law_255 rfl (lv_at hl 0 rfl) ?_
  refine lv_iload_n hx hb dL_law_256 rfl (lv_at hl 3 rfl) ?_
  refine lv_iconst (v := 1) hx hb dL_law_257 (by decide) ?_
  refine lv_iadd hx hb dL_law_258 ?_
  refine zt (ad1 i) ?_
  refine va_sld hx hb hXs hbl hbA hS (vp_in_nI (by omega) (by omega)) dL_law_259 ?_
  refine z_tc (f := xs) (nI_clamp (by omega)) ?_
  refine lv_aload_n hx hb dL_law_260 rfl (lv_at hl 0 rfl) ?_
  refine lv_iload_n hx hb dL_law_261 rfl (lv_at hl 3 rfl) ?_
  refine lv_iconst (v := 2) hx hb dL_law_262 (by decide) ?_
  refine lv_iadd hx hb dL_law_263 ?_
  refine zt (ad2 i) ?_
  refine va_sld hx hb hXs hbl hbA hS (vp_in_nI (by omega) (by omega)) dL_law_264 ?_
  refine z_tc (f := xs) (nI_clamp (by omega)) ?_
  refine zcallVi (As := [.int (xs (i + 1)), .int (xs (i + 2))]) (ws2 := w8 cI cB hX X ++ w9 cI cB hM M) (rest := []) ⟨hx, hb, hml, hown, hts⟩ (c_X8_part l D cI cB hX X (xs (i + 1)) (xs (i + 2)) r f1) (cwV 2 hts (z_gV (fun w h => wG_in h) wd_407 wd_408 wd_409 wd_1 wd_410) rfl rfl rfl q_X8_part ⟨Nat.le_of_ble_eq_true rfl, Nat.le_of_ble_eq_true rfl⟩) hK hP hD hS hA 8 rfl rfl rfl [0, 4, 5, 6, 31, 32, 33, 34, 35] [1, 2, 3, 7, 8, 9, 10, 11, 12, 13, 14, 15, 16, 17, 18, 19, 20, 21, 22, 23, 24, 25, 26, 27, 28, 29, 30, 36, 37, 38, 39, 40, 41, 42, 43, 44, 45, 46, 47, 48, 49, 50, 51, 52, 53, 54, 55, 56, 57, 58, 59, 60, 61, 62] rfl rfl rfl rfl rfl rfl rfl hl.1 (Nat.le_of_ble_eq_true rfl) dL_law_265 ⟨Nat.le_of_ble_eq_true rfl, Nat.le_of_ble_eq_true rfl⟩ rfl (fun H locs hP hD hS => ?_)
  refine lv_aload_n hx hb dL_law_268 rfl (lv_at hl 2 rfl) ?_
  refine lv_aload_n hx hb dL_law_269 rfl (lv_at hl 0 rfl) ?_
  refine lv_iload_n hx hb dL_law_270 rfl (lv_at hl 3 rfl) ?_
  refine lv_iconst (v := 1) hx hb dL_law_271 (by decide) ?_
  refine lv_iadd hx hb dL_law_272 ?_
  refine zt (ad1 i) ?_
  refine va_sld hx hb hXs hbl hbA hS (vp_in_nI (by omega) (by omega)) dL_law_273 ?_
  refine z_tc (f := xs) (nI_clamp (by omega)) ?_
  refine lv_aload_n hx hb dL_law_274 rfl (lv_at hl 0 rfl) ?_
  refine lv_iload_n hx hb dL_law_275 rfl (lv_at hl 3 rfl) ?_
  refine lv_iconst (v := 2) hx hb dL_law_276 (by decide) ?_
  refine lv_iadd hx hb dL_law_277 ?_
  refine zt (ad2 i) ?_
  refine va_sld hx hb hXs hbl hbA hS (vp_in_nI (by omega) (by omega)) dL_law_278 ?_
  refine z_tc (f := xs) (nI_clamp (by omega)) ?_
  refine zcallVi (As := [.int (xs (i + 1)), .int (xs (i + 2))]) (ws2 := w8 cI cB hX X ++ w9 cI cB hM M) (rest := [.int r]) ⟨hx, hb, hml, hown, hts⟩ (c_X9_part l D cI cB hM M (xs (i + 1)) (xs (i + 2)) r f2) (cwV 2 hts (z_gV (fun w h => wG_in h) wd_765 wd_766 wd_767 wd_15 wd_768) rfl rfl rfl q_X9_part ⟨Nat.le_of_ble_eq_true rfl, Nat.le_of_ble_eq_true rfl⟩) hK hP hD hS hA 9 rfl rfl rfl [45, 47, 49, 50, 51, 54] [0, 1, 2, 3, 4, 5, 6, 7, 8, 9, 10, 11, 12, 13, 14, 15, 16, 17, 18, 19, 20, 21, 22, 23, 24, 25, 26, 27, 28, 29, 30, 31, 32, 33, 34, 35, 36, 37, 38, 39, 40, 41, 42, 43, 44, 46, 48, 52, 53, 55, 56, 57, 58, 59, 60, 61, 62] rfl rfl rfl rfl rfl rfl rfl hl.1 (Nat.le_of_ble_eq_true rfl) dL_law_279 ⟨Nat.le_of_ble_eq_true rfl, Nat.le_of_ble_eq_true rfl⟩ rfl (fun H locs hP hD hS => ?_)
  refine lv_icmp_eq (tgt := 790) hx hb dL_law_282 (by decide) (fun _ => ?_) (fun c => absurd rfl c)
  exact kk hX X M hI _ _ _ hP hD hS hl
set_option maxHeartbeats 4000000 in
set_option maxRecDepth 100000 in
theorem law_gap {p : Program} {l : Launch} {e : Env} {s : State} {m : MethodId} {below : List Frame} {meth : Method} {c : Code} {b L : Nat} {xs : Nat → Int32} {A : Nat → Prop} {D : va_G} {cI cB : ClassId} (hL : L ≤ 2048) (C : zLC p s m c b L xs A D cI cB) {i : Nat} (hi : i + 4 ≤ L) {hX hM : Nat → Nat} {X M : zMm} (hI : Inv X M) (kk : ∀ (hX2 : Nat → Nat) (X2 M2 : zMm), Inv X2 M2 → zAtL p l e s m below meth c b A D cI cB hX2 hM X2 M2 i 790) : zAtL p l e s m below meth c b A D cI cB hX hM X M i 287 := by
  obtain ⟨hx, hb, hml, hown, hts, hXs, hbA, hbl, hK, hA⟩ := C
  intro H locs ls hP hD hS hl
  obtain ⟨r, X2, M2, f1, f2, hI2⟩ := q_gap hI (xs (i + 1))
  refine lv_aload_n hx hb dL_law_287 rfl (lv_at hl 1 rfl) ?_
  refine lv_aload_n hx hb dL_law_288 rfl (lv_at hl 0 rfl) ?_
  refine lv_iload_n hx hb dL_law_289 rfl (lv_at hl 3 rfl) ?_
  refine lv_iconst (v := 1) hx hb dL_law_290 (by decide) ?_
  refine lv_iadd hx hb dL_law_291 ?_
  refine zt (ad1 i) ?_
  refine va_sld hx hb hXs hbl hbA hS (vp_in_nI (by omega) (by omega)) dL_law_292 ?_
  refine z_tc (f := xs) (nI_clamp (by omega)) ?_
  refine zcallL (As := [.int (xs (i + 1))]) (rest := []) ⟨hx, hb, hml, hown, hts⟩ (c_X8_gap l D cI cB hX X (xs (i + 1)) r X2 f1) (cwV 1 hts (z_gV (fun w h => wG_in h) wd_442 wd_443 wd_444 wd_1 wd_445) rfl rfl rfl q_X8_gap ⟨Nat.le_of_ble_eq_true rfl, Nat.le_of_ble_eq_true rfl⟩) hK hP hD hS hA 8 rfl rfl rfl rfl hl.1 (Nat.le_of_ble_eq_true rfl) dL_law_293 ⟨Nat.le_of_ble_eq_true rfl, Nat.le_of_ble_eq_true rfl⟩ rfl (fun H locs hP hD hS => ?_)
  refine lv_aload_n hx hb dL_law_296 rfl (lv_at hl 2 rfl) ?_
  refine lv_aload_n hx hb dL_law_297 rfl (lv_at hl 0 rfl) ?_
  refine lv_iload_n hx hb dL_law_298 rfl (lv_at hl 3 rfl) ?_
  refine lv_iconst (v := 1) hx hb dL_law_299 (by decide) ?_
  refine lv_iadd hx hb dL_law_300 ?_
  refine zt (ad1 i) ?_
  refine va_sld hx hb hXs hbl hbA hS (vp_in_nI (by omega) (by omega)) dL_law_301 ?_
  refine z_tc (f := xs) (nI_clamp (by omega)) ?_
  refine zcallL (As := [.int (xs (i + 1))]) (rest := [.int r]) ⟨hx, hb, hml, hown, hts⟩ (c_X9_gap l D cI cB hM M (xs (i + 1)) r M2 f2) (cwV 1 hts (z_gV (fun w h => wG_in h) wd_793 wd_794 wd_795 wd_15 wd_796) rfl rfl rfl q_X9_gap ⟨Nat.le_of_ble_eq_true rfl, Nat.le_of_ble_eq_true rfl⟩) hK hP hD hS hA 9 rfl rfl rfl rfl hl.1 (Nat.le_of_ble_eq_true rfl) dL_law_302 ⟨Nat.le_of_ble_eq_true rfl, Nat.le_of_ble_eq_true rfl⟩ rfl (fun H locs hP hD hS => ?_)
  refine lv_icmp_eq (tgt := 790) hx hb dL_law_305 (by decide) (fun _ => ?_) (fun c => absurd rfl c)
  exact kk hX X2 M2 hI2 _ _ _ hP hD hS hl
set_option maxHeartbeats 4000000 in
set_option maxRecDepth 100000 in
theorem law_closes {p : Program} {l : Launch} {e : Env} {s : State} {m : MethodId} {below : List Frame} {meth : Method} {c : Code} {b L : Nat} {xs : Nat → Int32} {A : Nat → Prop} {D : va_G} {cI cB : ClassId} (hL : L ≤ 2048) (C : zLC p s m c b L xs A D cI cB) {i : Nat} (hi : i + 4 ≤ L) {hX hM : Nat → Nat} {X M : zMm} (hI : Inv X M) (kk : ∀ (hX2 : Nat → Nat) (X2 M2 : zMm), Inv X2 M2 → zAtL p l e s m below meth c b A D cI cB hX2 hM X2 M2 i 790) : zAtL p l e s m below meth c b A D cI cB hX hM X M i 310 := by
  obtain ⟨hx, hb, hml, hown, hts, hXs, hbA, hbl, hK, hA⟩ := C
  intro H locs ls hP hD hS hl
  obtain ⟨r, X2, M2, f1, f2, hI2⟩ := q_closes hI
  refine lv_aload_n hx hb dL_law_310 rfl (lv_at hl 1 rfl) ?_
  refine zcallL (As := []) (rest := []) ⟨hx, hb, hml, hown, hts⟩ (c_X8_closes l D cI cB hX X r X2 f1) (cwV 0 hts (z_gV (fun w h => wG_in h) wd_466 wd_467 wd_468 wd_1 wd_469) rfl rfl rfl q_X8_closes ⟨Nat.le_of_ble_eq_true rfl, Nat.le_of_ble_eq_true rfl⟩) hK hP hD hS hA 8 rfl rfl rfl rfl hl.1 (Nat.le_of_ble_eq_true rfl) dL_law_311 ⟨Nat.le_of_ble_eq_true rfl, Nat.le_of_ble_eq_true rfl⟩ rfl (fun H locs hP hD hS => ?_)
  refine lv_aload_n hx hb dL_law_314 rfl (lv_at hl 2 rfl) ?_
  refine zcallL (As := []) (rest := [.int r]) ⟨hx, hb, hml, hown, hts⟩ (c_X9_closes l D cI cB hM M r M2 f2) (cwV 0 hts (z_gV (fun w h => wG_in h) wd_810 wd_811 wd_812 wd_15 wd_813) rfl rfl rfl q_X9_closes ⟨Nat.le_of_ble_eq_true rfl, Nat.le_of_ble_eq_true rfl⟩) hK hP hD hS hA 9 rfl rfl rfl rfl hl.1 (Nat.le_of_ble_eq_true rfl) dL_law_315 ⟨Nat.le_of_ble_eq_true rfl, Nat.le_of_ble_eq_true rfl⟩ rfl (fun H locs hP hD hS => ?_)
  refine lv_icmp_eq (tgt := 790) hx hb dL_law_318 (by decide) (fun _ => ?_) (fun c => absurd rfl c)
  exact kk hX X2 M2 hI2 _ _ _ hP hD hS hl
