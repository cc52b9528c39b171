/-! what an object with all that it holds contains: its place (a field, in the order of the slots, deep), then an index; a plain number stands at index 0 -/
abbrev zMm : Type := Nat → Nat → Int32
def zs (X : zMm) (j : Nat) (g : Nat → Int32) : zMm := fun i => cond (Nat.beq i j) g (X i)
def zp (X : zMm) (b n : Nat) (P : zMm) : zMm := fun i => cond (Nat.ble b i && Nat.blt i (b + n)) (P (i - b)) (X i)
/-! programs as functions: none where the machine would throw -/
def zl {α : Type} (n : Nat) (f : Nat → Int32) (i : Int32) (k : Int32 → Option α) : Option α := if i < 0 ∨ n ≤ i.toNatClampNeg then none else k (f i.toNatClampNeg)
def zw {α : Type} (n : Nat) (X : zMm) (j : Nat) (i v : Int32) (k : zMm → Option α) : Option α := if i < 0 ∨ n ≤ i.toNatClampNeg then none else k (zs X j (upd (X j) i.toNatClampNeg v))
def zv {β α : Type} (x : β) (k : β → Option α) : Option α := k x
def zd {α : Type} (y : Int32) (k : Option α) : Option α := if y = 0 then none else k
def zdL {α : Type} (y : Int64) (k : Option α) : Option α := if y = 0 then none else k
def zo (v : Int32) {α : Type} (k : Option α) : Option α := if v &&& 1 = v then k else none
def zb1 {α β : Type} (o : Option β) (k : β → Option α) : Option α := match o with
  | none => none
  | some a => k a
def zb2 {α β γ : Type} (o : Option (β × γ)) (k : β → γ → Option α) : Option α := match o with
  | none => none
  | some (a, b) => k a b
def zb3 {α β γ δ : Type} (o : Option (β × γ × δ)) (k : β → γ → δ → Option α) : Option α := match o with
  | none => none
  | some (a, b, c) => k a b c
def zb4 {α β γ δ ε : Type} (o : Option (β × γ × δ × ε)) (k : β → γ → δ → ε → Option α) : Option α := match o with
  | none => none
  | some (a, b, c, d) => k a b c d
def zb5 {α β γ δ ε ζ : Type} (o : Option (β × γ × δ × ε × ζ)) (k : β → γ → δ → ε → ζ → Option α) : Option α := match o with
  | none => none
  | some (a, b, c, d, e) => k a b c d e
theorem zl_some {α : Type} {n : Nat} {f : Nat → Int32} {i : Int32} {k : Int32 → Option α} {r : α} (h : zl n f i k = some r) : vp_in i n ∧ ∃ v, v = f i.toNatClampNeg ∧ k v = some r := by
  unfold zl at h
  split at h
  · cases h
  · next q => exact ⟨q, _, rfl, h⟩
theorem zw_some {α : Type} {n : Nat} {X : zMm} {j : Nat} {i v : Int32} {k : zMm → Option α} {r : α} (h : zw n X j i v k = some r) : vp_in i n ∧ ∃ Y, Y = zs X j (upd (X j) i.toNatClampNeg v) ∧ k Y = some r := by
  unfold zw at h
  split at h
  · cases h
  · next q => exact ⟨q, _, rfl, h⟩
theorem zv_some {β α : Type} {x : β} {k : β → Option α} {r : α} (h : zv x k = some r) : ∃ y, y = x ∧ k y = some r := ⟨x, rfl, h⟩
theorem zd_some {α : Type} {y : Int32} {k : Option α} {r : α} (h : zd y k = some r) : ¬ y = 0 ∧ k = some r := by
  unfold zd at h
  split at h
  · cases h
  · next q => exact ⟨q, h⟩
theorem zdL_some {α : Type} {y : Int64} {k : Option α} {r : α} (h : zdL y k = some r) : ¬ y = 0 ∧ k = some r := by
  unfold zdL at h
  split at h
  · cases h
  · next q => exact ⟨q, h⟩
theorem zo_some {v : Int32} {α : Type} {k : Option α} {r : α} (h : zo v k = some r) : narrow .boolean (.int v) = .int v ∧ k = some r := by
  unfold zo at h
  split at h
  · next q => exact ⟨by show Value.int (v &&& 1) = _; rw [q], h⟩
  · cases h
theorem zb1_some {α β : Type} {o : Option β} {k : β → Option α} {r : α} (h : zb1 o k = some r) : ∃ a, o = some a ∧ k a = some r := by
  cases o with
  | none => cases h
  | some a => exact ⟨a, rfl, h⟩
theorem zb2_some {α β γ : Type} {o : Option (β × γ)} {k : β → γ → Option α} {r : α} (h : zb2 o k = some r) : ∃ a b, o = some (a, b) ∧ k a b = some r := by
  cases o with
  | none => cases h
  | some a => exact ⟨a.1, a.2, rfl, h⟩
theorem zb3_some {α β γ δ : Type} {o : Option (β × γ × δ)} {k : β → γ → δ → Option α} {r : α} (h : zb3 o k = some r) : ∃ a b c, o = some (a, b, c) ∧ k a b c = some r := by
  cases o with
  | none => cases h
  | some a => exact ⟨a.1, a.2.1, a.2.2, rfl, h⟩
theorem zb4_some {α β γ δ ε : Type} {o : Option (β × γ × δ × ε)} {k : β → γ → δ → ε → Option α} {r : α} (h : zb4 o k = some r) : ∃ a b c d, o = some (a, b, c, d) ∧ k a b c d = some r := by
  cases o with
  | none => cases h
  | some a => exact ⟨a.1, a.2.1, a.2.2.1, a.2.2.2, rfl, h⟩
theorem zb5_some {α β γ δ ε ζ : Type} {o : Option (β × γ × δ × ε × ζ)} {k : β → γ → δ → ε → ζ → Option α} {r : α} (h : zb5 o k = some r) : ∃ a b c d e, o = some (a, b, c, d, e) ∧ k a b c d e = some r := by
  cases o with
  | none => cases h
  | some a => exact ⟨a.1, a.2.1, a.2.2.1, a.2.2.2.1, a.2.2.2.2, rfl, h⟩
theorem zit {α : Type} {c : Prop} {_i : Decidable c} {a b : Option α} {r : α} (h : c) (hf : (if c then a else b) = some r) : a = some r := by
  rw [if_pos h] at hf
  exact hf
theorem zif {α : Type} {c : Prop} {_i : Decidable c} {a b : Option α} {r : α} (h : ¬ c) (hf : (if c then a else b) = some r) : b = some r := by
  rw [if_neg h] at hf
  exact hf
theorem zsw_out {x : Int32} {lo hi : Nat} (hb : hi < 2 ^ 31) (h : ∀ k, lo ≤ k → k ≤ hi → ¬ x = nI k) : x.toInt < (lo : Int) ∨ (hi : Int) < x.toInt := by
  rcases Int.lt_or_le x.toInt lo with q | q
  · exact Or.inl q
  · rcases Int.lt_or_le (hi : Int) x.toInt with q2 | q2
    · exact Or.inr q2
    · exfalso
      obtain ⟨k, hk⟩ := Int.eq_ofNat_of_zero_le (show 0 ≤ x.toInt by omega)
      refine h k (by omega) (by omega) ?_
      have h2 : (nI k).toInt = (k : Int) := nI_toInt (by omega)
      exact Int32.toInt_inj.mp (by rw [h2, hk])
/-! a method's contract: with the cells ws at its start it answers r and leaves the cells w1 -/
def zPc (D : va_G) (cI cB : ClassId) (av : List Value) (ws : va_W) (sz : Nat) : Array Value → State → Prop := va_Pc av (fun U => U.heap.size = sz ∧ va_P D vwCl ws U.heap ∧ va_K D vwCl [(cI, .int), (cB, .byte)] U ∧ va_D (fun _ => True) ws)
def zQi (D : va_G) (cI cB : ClassId) (r : Int32) (w1 : va_W) (A : Nat → Prop) : Array Value → State → Outcome → State → Prop := va_Qi (fun (r2 : Int32) (_ : Unit) => r2 = r) (fun _ t => va_P D vwCl w1 t.heap ∧ va_K D vwCl [(cI, .int), (cB, .byte)] t ∧ va_D A w1) A
def zQv (D : va_G) (cI cB : ClassId) (w1 : va_W) (A : Nat → Prop) : Array Value → State → Outcome → State → Prop := va_Qv (fun (_ : Unit) => True) (fun _ t => va_P D vwCl w1 t.heap ∧ va_K D vwCl [(cI, .int), (cB, .byte)] t ∧ va_D A w1) A
def zMi (l : Launch) (y : MethodName) (wy : List Cond) (rm : Room) (D : va_G) (cI cB : ClassId) (av : List Value) (ws : va_W) (r : Int32) (w1 : va_W) : Prop := ∀ sz : Nat, Met l y wy rm (zPc D cI cB av ws sz) (zQi D cI cB r w1 (va_A ws sz)) 0 0 (va_A ws sz)
def zMv (l : Launch) (y : MethodName) (wy : List Cond) (rm : Room) (D : va_G) (cI cB : ClassId) (av : List Value) (ws w1 : va_W) : Prop := ∀ sz : Nat, Met l y wy rm (zPc D cI cB av ws sz) (zQv D cI cB w1 (va_A ws sz)) 0 0 (va_A ws sz)
theorem zPc_blind {D : va_G} {cI cB : ClassId} {av : List Value} {ws : va_W} {sz : Nat} : FrameBlind (zPc D cI cB av ws sz) := by
  intro a U g mk q
  obtain ⟨q0, q1, qP, qK, qD⟩ := q
  exact ⟨q0, q1, qP, va_K.moved (u := U) (U := U.calling g mk a) (Vm.Alike.refl U.vm) qK, qD⟩
theorem zofI {l : Launch} {y : MethodName} {wy wy2 : List Cond} {rm : Room} {D : va_G} {cI cB : ClassId} {av : List Value} {ws w1 : va_W} {r : Int32} {cc : ByteArray} {maxL : Nat} {ret : Option FieldType} (hy : plainName y.cls = true) (hw : wy = Cond.code y cc maxL ret :: wy2) (hlen : (lg_sl av).length ≤ maxL)
    (body : ∀ (p : Program) (e : Env) (s : State) (m : MethodId) (below : List Frame) (meth : Method) (c : Code) (A : Nat → Prop) (ls : Array Slot), p.tables.exec = Jvm.exec → c.code = cc → c.maxLocals = maxL → meth.sig.returnType = ret → s.vm.findClass y.cls = some m.cls → (∀ w ∈ wy, w.before av.toArray s = true) → meth.locks = false → va_K D vwCl [(cI, .int), (cB, .byte)] s → va_P D vwCl ws s.heap → va_D A ws → va_S A s.heap s.heap [] → (∀ q : Nat, s.heap.size ≤ q → A q) → lv_has ls maxL (lv_args 0 av) → W p l e rm s m av.toArray below meth c s.heap [] 0 0 (MQ below (zQi D cI cB r w1 A) av.toArray s 0 0 A) (F0 m 0 ls [])) : zMi l y wy rm D cI cB av ws r w1 := by
  intro sz
  refine Met.ofW (cc := cc) (maxL := maxL) (ret := ret) hy hw ?_
  intro p e s m args below meth c s₁ B hml hv
  obtain ⟨rfl, hsz, hP, hK, hD0⟩ := hv
  have hts := atoms_spec (ws := wy) B.pre
  subst hsz
  have hD := hD0.self (sz := s.heap.size)
  have hl := lv_entry av (n := maxL) hlen
  rw [lg_entry_eq]
  exact body p e s m below meth c (va_A ws s.heap.size) _ B.exec B.bytes hml B.returns (findClass_of_methodNamed B.named) hts B.notSynchronized hK hP hD va_S.rf (fun q h => Or.inr h) hl
theorem zofV {l : Launch} {y : MethodName} {wy wy2 : List Cond} {rm : Room} {D : va_G} {cI cB : ClassId} {av : List Value} {ws w1 : va_W} {cc : ByteArray} {maxL : Nat} {ret : Option FieldType} (hy : plainName y.cls = true) (hw : wy = Cond.code y cc maxL ret :: wy2) (hlen : (lg_sl av).length ≤ maxL)
    (body : ∀ (p : Program) (e : Env) (s : State) (m : MethodId) (below : List Frame) (meth : Method) (c : Code) (A : Nat → Prop) (ls : Array Slot), p.tables.exec = Jvm.exec → c.code = cc → c.maxLocals = maxL → meth.sig.returnType = ret → s.vm.findClass y.cls = some m.cls → (∀ w ∈ wy, w.before av.toArray s = true) → meth.locks = false → va_K D vwCl [(cI, .int), (cB, .byte)] s → va_P D vwCl ws s.heap → va_D A ws → va_S A s.heap s.heap [] → (∀ q : Nat, s.heap.size ≤ q → A q) → lv_has ls maxL (lv_args 0 av) → W p l e rm s m av.toArray below meth c s.heap [] 0 0 (MQ below (zQv D cI cB w1 A) av.toArray s 0 0 A) (F0 m 0 ls [])) : zMv l y wy rm D cI cB av ws w1 := by
  intro sz
  refine Met.ofW (cc := cc) (maxL := maxL) (ret := ret) hy hw ?_
  intro p e s m args below meth c s₁ B hml hv
  obtain ⟨rfl, hsz, hP, hK, hD0⟩ := hv
  have hts := atoms_spec (ws := wy) B.pre
  subst hsz
  have hD := hD0.self (sz := s.heap.size)
  have hl := lv_entry av (n := maxL) hlen
  rw [lg_entry_eq]
  exact body p e s m below meth c (va_A ws s.heap.size) _ B.exec B.bytes hml B.returns (findClass_of_methodNamed B.named) hts B.notSynchronized hK hP hD va_S.rf (fun q h => Or.inr h) hl
/-- a place of a method's walk: whoever has the cells and the locals there comes to the end -/
def zAt (p : Program) (l : Launch) (e : Env) (R : Room) (s : State) (m : MethodId) (args : Array Value) (below : List Frame) (meth : Method) (c : Code) (Q : State → Prop) (A : Nat → Prop) (D : va_G) (nL : Nat) (ws : va_W) (lv : List (Nat × Value)) (pc : Nat) (st : List Value) : Prop := ∀ (H : Heap) (locs : List Loc) (ls : Array Slot), va_P D vwCl ws H → va_D A ws → va_S A s.heap H locs → lv_has ls nL lv → W p l e R s m args below meth c H locs 0 0 Q (F0 m pc ls st)
theorem z_fm {α : Type} {w : List α} : ∀ {is : List Nat} {w2 : List α}, is.map (fun i => w[i]?) = w2.map some → is.filterMap (fun i => w[i]?) = w2
  | [], [], _ => rfl
  | [], _ :: _, h => by cases h
  | _ :: _, [], h => by cases h
  | i :: is, a :: w2, h => by
    simp only [List.map_cons, List.cons.injEq] at h
    rw [List.filterMap_cons, h.1]
    simp only [z_fm (w2 := w2) h.2]
section ZR
variable {p : Program} {l : Launch} {e : Env} {R : Room} {s : State} {m : MethodId} {args : Array Value} {below : List Frame} {meth : Method} {c : Code} {H : Heap} {locs : List Loc} {cells slots : Nat} {Q : State → Prop}
variable {pc : Nat} {ls : Array Slot} {rest : List Value} {A : Nat → Prop} {D : va_G} {cI cB : ClassId} {w1 : va_W} {cc : ByteArray}
theorem zt {x y : Int32} (h : y = x) (k : W p l e R s m args below meth c H locs cells slots Q (F0 m pc ls (.int y :: rest))) : W p l e R s m args below meth c H locs cells slots Q (F0 m pc ls (.int x :: rest)) := h ▸ k
theorem ztL {x y : Int64} (h : y = x) (k : W p l e R s m args below meth c H locs cells slots Q (F0 m pc ls (.long y :: rest))) : W p l e R s m args below meth c H locs cells slots Q (F0 m pc ls (.long x :: rest)) := h ▸ k
theorem zretI {r : Int32} (hx : p.tables.exec = Jvm.exec) (hb : c.code = cc) (hr : meth.sig.returnType = some .int) (hlocks : meth.locks = false) (hK : va_K D vwCl [(cI, .int), (cB, .byte)] s) (hP : va_P D vwCl w1 H) (hD : va_D A w1) (hS : va_S A s.heap H locs) (hdg : decode cc pc = .ok (.ireturn, 1)) : W p l e R s m args below meth c H locs 0 0 (MQ below (zQi D cI cB r w1 A) args s 0 0 A) (F0 m pc ls [.int r]) :=
  W.iret hx hb hr (fun t ht hW => ⟨⟨r, (), rfl, rfl, by rw [ht]; exact hP, va_K.moved hW.alike hK, hD⟩, hS.F ht⟩) hS.2.2 hdg
theorem zretB {r : Int32} (hx : p.tables.exec = Jvm.exec) (hb : c.code = cc) (hr : meth.sig.returnType = some .boolean) (hlocks : meth.locks = false) (hn : narrow .boolean (.int r) = .int r) (hK : va_K D vwCl [(cI, .int), (cB, .byte)] s) (hP : va_P D vwCl w1 H) (hD : va_D A w1) (hS : va_S A s.heap H locs) (hdg : decode cc pc = .ok (.ireturn, 1)) : W p l e R s m args below meth c H locs 0 0 (MQ below (zQi D cI cB r w1 A) args s 0 0 A) (F0 m pc ls [.int r]) :=
  W.zret hx hb hr hn (fun t ht hW => ⟨⟨r, (), rfl, rfl, by rw [ht]; exact hP, va_K.moved hW.alike hK, hD⟩, hS.F ht⟩) hS.2.2 hdg
theorem zretV (hx : p.tables.exec = Jvm.exec) (hb : c.code = cc) (hr : meth.sig.returnType = none) (hlocks : meth.locks = false) (hK : va_K D vwCl [(cI, .int), (cB, .byte)] s) (hP : va_P D vwCl w1 H) (hD : va_D A w1) (hS : va_S A s.heap H locs) (hdg : decode cc pc = .ok (.return_, 1)) : W p l e R s m args below meth c H locs 0 0 (MQ below (zQv D cI cB w1 A) args s 0 0 A) (F0 m pc ls []) :=
  W.vret hx hb hr (fun t ht hW => ⟨⟨(), rfl, trivial, by rw [ht]; exact hP, va_K.moved hW.alike hK, hD⟩, hS.F ht⟩) hS.2.2 hdg
variable {H0 : Heap} {ws wc ws2 : va_W} {y : MethodName} {bytes : ByteArray} {maxL nL n index ci : Nat} {ret : Option FieldType} {wy Ts : List Cond} {rm : Room} {own C : String} {b : Addr} {As : List Value} {r : Int32} {q0 : vw_C} {fs : List Value}
/-- the caller's cells behind a call: those of the callee at their places, the others as they were -/
theorem z_join {H1 : Heap} (hP : va_P D vwCl ws H) (hD : va_D A ws) (hS : va_S A H0 H locs) (hA : ∀ q : Nat, H0.size ≤ q → A q) (isC isR : List Nat) (hC : isC.map (fun i => ws[i]?) = wc.map some) (h2C : isC.map (fun i => ws2[i]?) = w1.map some) (h2R : isR.map (fun i => ws2[i]?) = isR.map (fun i => ws[i]?)) (hdis : isR.all (fun i => !(isC.contains i)) = true) (hcov : (List.range ws2.length).all (fun i => isC.contains i || isR.contains i) = true)
    (hk : ∀ q : Nat, q < H.size → ¬ va_A wc H.size q → H1[q]? = H[q]?) (hP1 : va_P D vwCl w1 H1) (hD1 : va_D (va_A wc H.size) w1) : va_P D vwCl ws2 H1 ∧ va_D A ws2 := by
  have hFc := va_free (wc := wc) hD hS hA isC hC
  have hdis2 : ∀ i ∈ isR, i ∉ isC := by
    intro i hi hc
    have h1 := List.all_eq_true.mp hdis i hi
    simp [hc] at h1
  have at' : ∀ {wx w : va_W}, isC.map (fun i => wx[i]?) = w.map some → ∀ (k : Nat) (q : Nat × va_E), w[k]? = some q → ∃ i, isC[k]? = some i ∧ wx[i]? = some q := by
    intro wx w hs k q hq
    have h1 : (isC.map (fun i => wx[i]?))[k]? = some (some q) := by rw [hs, List.getElem?_map, hq]; rfl
    rw [List.getElem?_map] at h1
    cases hi : isC[k]? with
    | none => rw [hi] at h1; cases h1
    | some i => rw [hi] at h1; exact ⟨i, rfl, Option.some.inj h1⟩
  have atC : ∀ (k : Nat) (q : Nat × va_E), k ∈ isC → ws2[k]? = some q → ∃ a : Nat, isC[a]? = some k ∧ w1[a]? = some q := by
    intro k q hk1 hq
    obtain ⟨a, ha⟩ := List.getElem?_of_mem hk1
    refine ⟨a, ha, ?_⟩
    have h1 : (isC.map (fun i => ws2[i]?))[a]? = some (some q) := by rw [List.getElem?_map, ha]; show some (ws2[k]?) = _; rw [hq]
    rw [h2C, List.getElem?_map] at h1
    cases hi : w1[a]? with
    | none => rw [hi] at h1; cases h1
    | some i => rw [hi] at h1; exact h1 |> fun h => by simpa using h
  have atR : ∀ k ∈ isR, ws2[k]? = ws[k]? := List.map_inj_left.mp h2R
  have apart : ∀ (k : Nat) (q : Nat × va_E), k ∈ isR → ws[k]? = some q → q.1 < H.size ∧ ¬ va_A wc H.size q.1 := by
    intro k q hkR hq
    have hl := (hP k q hq).lt
    refine ⟨hl, fun h => ?_⟩
    rcases h with ⟨k2, e, h⟩ | h
    · obtain ⟨j, h3, h4⟩ := at' hC k2 (q.1, e) h
      have hij := hD.1 k j q (q.1, e) hq h4 rfl
      subst hij
      exact hdis2 k hkR (List.mem_of_getElem? h3)
    · omega
  have cov : ∀ (k : Nat) (q : Nat × va_E), ws2[k]? = some q → k ∈ isC ∨ k ∈ isR := by
    intro k q hq
    have h1 := List.all_eq_true.mp hcov k (List.mem_range.mpr (List.getElem?_eq_some_iff.mp hq).1)
    simpa using h1
  refine ⟨fun k q hq => ?_, fun i j x y hi hj hxy => ?_, fun k q hq => ?_⟩
  · rcases cov k q hq with h | h
    · obtain ⟨a, -, h2⟩ := atC k q h hq
      exact hP1 a q h2
    · rw [atR k h] at hq
      obtain ⟨g1, g2⟩ := apart k q h hq
      exact (hP k q hq).kept (hk q.1 g1 g2)
  · rcases cov i x hi with h | h <;> rcases cov j y hj with h2 | h2
    · obtain ⟨a, e1, e2⟩ := atC i x h hi
      obtain ⟨b, e3, e4⟩ := atC j y h2 hj
      have := hD1.1 a b x y e2 e4 hxy
      subst this
      exact Option.some.inj (e1.symm.trans e3)
    · obtain ⟨a, e1, e2⟩ := atC i x h hi
      rw [atR j h2] at hj
      exact absurd (hD1.2 a x e2) (by rw [hxy]; exact (apart j y h2 hj).2)
    · obtain ⟨b, e3, e4⟩ := atC j y h2 hj
      rw [atR i h] at hi
      exact absurd (hD1.2 b y e4) (by rw [← hxy]; exact (apart i x h hi).2)
    · rw [atR i h] at hi
      rw [atR j h2] at hj
      exact hD.1 i j x y hi hj hxy
  · rcases cov k q hq with h | h
    · obtain ⟨a, -, h2⟩ := atC k q h hq
      exact hFc _ (hD1.2 a q h2)
    · rw [atR k h] at hq
      exact hD.2 k q hq
theorem zcallVi (S : CallFix p m c cc nL s args Ts own) (hM : zMi l y wy rm D cI cB (.ref b :: As) wc r w1) (cw : CallW R s args own C index y bytes maxL ret wy rm 0 0 n) (hK : va_K D vwCl [(cI, .int), (cB, .byte)] s) (hP : va_P D vwCl ws H) (hD : va_D A ws) (hS : va_S A H0 H locs) (hA : ∀ q : Nat, H0.size ≤ q → A q) (ci0 : Nat) (hrc : wc[0]? = some (b, .inr (ci0, fs))) (hcl : vwCl[ci0]? = some q0) (hq0 : q0.1 = C) (isC isR : List Nat) (hC : isC.map (fun i => ws[i]?) = wc.map some) (hnC : va_nd isC = true) (h2C : isC.map (fun i => ws2[i]?) = w1.map some) (h2R : isR.map (fun i => ws2[i]?) = isR.map (fun i => ws[i]?)) (hdis : isR.all (fun i => !(isC.contains i)) = true) (hcov : (List.range ws2.length).all (fun i => isC.contains i || isR.contains i) = true)
    (hAs : As.length = n) (hls : ls.size = nL) (hroom : (rest.map fun v => v.category).sum ≤ 8) (hdg : decode cc pc = .ok (.invokevirtual index, 3)) (hcs : cells ≤ R.cells ∧ slots ≤ R.slots) {st : List Value} (hst : st = As.reverse ++ .ref b :: rest)
    (kk : ∀ (H1 : Heap) (locs1 : List Loc), va_P D vwCl ws2 H1 → va_D A ws2 → va_S A H0 H1 locs1 → W p l e R s m args below meth c H1 locs1 cells slots Q (F0 m (pc + 3) ls (.int r :: rest))) : W p l e R s m args below meth c H locs cells slots Q (F0 m pc ls st) := by
  subst hst
  subst hq0
  have hPc := hP.sub isC (z_fm (w2 := wc) hC)
  have hDc := hD.sub isC hnC hC
  have hFc := va_free (wc := wc) hD hS hA isC hC
  refine va_calli (va_runV (As := As) (rest := rest) S (hM H.size) cw ⟨zPc_blind, va_recv hK hPc hcl hrc, fun U hU hW => ⟨rfl, by rw [hU], by rw [hU]; exact hPc, va_K.moved hW.alike hK, hDc.weaken (fun _ _ _ _ => trivial)⟩⟩ rfl hAs hls rfl (lv_room hroom) hdg hcs) hS (fun q _ h => hFc q h) hFc (fun r2 u t H1 locs2 ht hvm hw hB hz1 hk1 hS2 => ?_)
  obtain ⟨hP1, hK1, hD1⟩ := hB
  rw [ht] at hP1
  subst hw
  obtain ⟨a, b⟩ := z_join hP hD hS hA isC isR hC h2C h2R hdis hcov hk1 hP1 hD1
  exact kk H1 locs2 a b hS2
theorem zcallVv (S : CallFix p m c cc nL s args Ts own) (hM : zMv l y wy rm D cI cB (.ref b :: As) wc w1) (cw : CallW R s args own C index y bytes maxL ret wy rm 0 0 n) (hK : va_K D vwCl [(cI, .int), (cB, .byte)] s) (hP : va_P D vwCl ws H) (hD : va_D A ws) (hS : va_S A H0 H locs) (hA : ∀ q : Nat, H0.size ≤ q → A q) (ci0 : Nat) (hrc : wc[0]? = some (b, .inr (ci0, fs))) (hcl : vwCl[ci0]? = some q0) (hq0 : q0.1 = C) (isC isR : List Nat) (hC : isC.map (fun i => ws[i]?) = wc.map some) (hnC : va_nd isC = true) (h2C : isC.map (fun i => ws2[i]?) = w1.map some) (h2R : isR.map (fun i => ws2[i]?) = isR.map (fun i => ws[i]?)) (hdis : isR.all (fun i => !(isC.contains i)) = true) (hcov : (List.range ws2.length).all (fun i => isC.contains i || isR.contains i) = true)
    (hAs : As.length = n) (hls : ls.size = nL) (hroom : (rest.map fun v => v.category).sum ≤ 8) (hdg : decode cc pc = .ok (.invokevirtual index, 3)) (hcs : cells ≤ R.cells ∧ slots ≤ R.slots) {st : List Value} (hst : st = As.reverse ++ .ref b :: rest)
    (kk : ∀ (H1 : Heap) (locs1 : List Loc), va_P D vwCl ws2 H1 → va_D A ws2 → va_S A H0 H1 locs1 → W p l e R s m args below meth c H1 locs1 cells slots Q (F0 m (pc + 3) ls rest)) : W p l e R s m args below meth c H locs cells slots Q (F0 m pc ls st) := by
  subst hst
  subst hq0
  have hPc := hP.sub isC (z_fm (w2 := wc) hC)
  have hDc := hD.sub isC hnC hC
  have hFc := va_free (wc := wc) hD hS hA isC hC
  refine va_callv (va_runV (As := As) (rest := rest) S (hM H.size) cw ⟨zPc_blind, va_recv hK hPc hcl hrc, fun U hU hW => ⟨rfl, by rw [hU], by rw [hU]; exact hPc, va_K.moved hW.alike hK, hDc.weaken (fun _ _ _ _ => trivial)⟩⟩ rfl hAs hls rfl (lv_room hroom) hdg hcs) hS (fun q _ h => hFc q h) hFc (fun u t H1 locs2 ht hvm hw hB hz1 hk1 hS2 => ?_)
  obtain ⟨hP1, hK1, hD1⟩ := hB
  rw [ht] at hP1
  obtain ⟨a, b⟩ := z_join hP hD hS hA isC isR hC h2C h2R hdis hcov hk1 hP1 hD1
  exact kk H1 locs2 a b hS2
/-- a static method that touches no cell -/
theorem zcallSi (S : CallFix p m c cc nL s args Ts own) (hM : zMi l y wy rm D cI cB As [] r []) (cw : CallB R s args own index y bytes maxL ret wy rm 0 0 n ∧ (Cond.static y).before args s = true) (hK : va_K D vwCl [(cI, .int), (cB, .byte)] s) (hP : va_P D vwCl ws H) (hD : va_D A ws) (hS : va_S A H0 H locs) (hA : ∀ q : Nat, H0.size ≤ q → A q)
    (hAs : As.length = n) (hls : ls.size = nL) (hroom : (rest.map fun v => v.category).sum ≤ 8) (hdg : decode cc pc = .ok (.invokestatic index, 3)) (hcs : cells ≤ R.cells ∧ slots ≤ R.slots) {st : List Value} (hst : st = As.reverse ++ rest)
    (kk : ∀ (H1 : Heap) (locs1 : List Loc), va_P D vwCl ws H1 → va_D A ws → va_S A H0 H1 locs1 → W p l e R s m args below meth c H1 locs1 cells slots Q (F0 m (pc + 3) ls (.int r :: rest))) : W p l e R s m args below meth c H locs cells slots Q (F0 m pc ls st) := by
  subst hst
  have hFc : ∀ q : Nat, va_A [] H.size q → A q := fun q h => by
    rcases h with ⟨k, e, h⟩ | h
    · simp at h
    · exact hA q (Nat.le_trans hS.1 h)
  refine va_calli (va_runS (As := As) (rest := rest) S (hM H.size) cw ⟨zPc_blind, fun U hU hW => ⟨rfl, by rw [hU], fun k q h => by simp at h, va_K.moved hW.alike hK, ⟨fun i j p q h => by simp at h, fun k q h => by simp at h⟩⟩⟩ rfl hAs hls rfl (lv_room hroom) hdg hcs) hS (fun q _ h => hFc q h) hFc (fun r2 u t H1 locs2 ht hvm hw hB hz1 hk1 hS2 => ?_)
  subst hw
  exact kk H1 locs2 (hP.kept (fun k q hq => hk1 q.1 ((hP k q hq).lt) (fun h => by
    rcases h with ⟨k, e, h⟩ | h
    · simp at h
    · exact absurd ((hP _ q hq).lt) (by omega)))) hD hS2
/-- the words of a static call whose class may be another one -/
theorem z_cwS {ws' : List Cond} (n : Nat) (ht : ∀ w ∈ Ts, w.before args s = true) (hT : GoodIn Ts (va_wsS own index y wy)) (hw : wy = Cond.code y bytes maxL ret :: ws') (hrc : rm.cells = 0) (hrs : rm.slots = 0) (hd : y.cls ≠ "java/lang/invoke/MethodHandle" ∧ y.cls ≠ "java/lang/invoke/VarHandle" ∧ (parseMethodDescriptor y.desc).map (fun d => d.parameters.length) = some n) (hR : rm.frames + 1 ≤ R.frames ∧ 8 + (maxL + 11) + rm.locals ≤ R.locals) : CallB R s args own index y bytes maxL ret wy rm 0 0 n ∧ (Cond.static y).before args s = true := by
  have ok : ∀ w ∈ va_wsS own index y wy, w.before args s = true := fun w h => ht w (hT w h).1
  exact ⟨callB_of n ht (fun w h => hT w (by unfold va_wsS; exact List.mem_append_right _ h)) hw hrc hrs (ok _ (by simp [va_wsS])) (ok _ (by simp [va_wsS])) hd hR, ok _ (by simp [va_wsS])⟩
end ZR
