/-! constructors: contracts that make cells -/
def zZ : zMm := fun _ _ => 0
def zhL (l : List Nat) : Nat → Nat := fun i => l.getD i 0
def zQc (D : va_G) (cI cB : ClassId) (a0 : Nat) (wf : (Nat → Nat) → va_W) (A : Nat → Prop) : Array Value → State → Outcome → State → Prop := va_Qv (fun h : Nat → Nat => h 0 = a0) (fun h t => va_P D vwCl (wf h) t.heap ∧ va_K D vwCl [(cI, .int), (cB, .byte)] t ∧ va_D A (wf h)) A
def zMc (l : Launch) (y : MethodName) (wy : List Cond) (rm : Room) (D : va_G) (cI cB : ClassId) (av : List Value) (ws : va_W) (a0 : Nat) (wf : (Nat → Nat) → va_W) (mc ms : Nat) : Prop := ∀ sz : Nat, Met l y wy rm (zPc D cI cB av ws sz) (zQc D cI cB a0 wf (va_A ws sz)) mc ms (va_A ws sz)
theorem zofC {l : Launch} {y : MethodName} {wy wy2 : List Cond} {rm : Room} {D : va_G} {cI cB : ClassId} {av : List Value} {ws : va_W} {a0 : Nat} {wf : (Nat → Nat) → va_W} {mc ms : Nat} {cc : ByteArray} {maxL : Nat} {ret : Option FieldType} (hy : plainName y.cls = true) (hw : wy = Cond.code y cc maxL ret :: wy2) (hlen : (lg_sl av).length ≤ maxL) (hnm : y.name = "<init>")
    (body : ∀ (p : Program) (e : Env) (s : State) (m : MethodId) (below : List Frame) (meth : Method) (c : Code) (A : Nat → Prop) (ls : Array Slot), p.tables.exec = Jvm.exec → c.code = cc → c.maxLocals = maxL → meth.sig.returnType = ret → s.vm.findClass y.cls = some m.cls → (∀ w ∈ wy, w.before av.toArray s = true) → meth.locks = false → meth.name = "<init>" → va_K D vwCl [(cI, .int), (cB, .byte)] s → va_P D vwCl ws s.heap → va_D A ws → va_S A s.heap s.heap [] → (∀ q : Nat, s.heap.size ≤ q → A q) → lv_has ls maxL (lv_args 0 av) → W p l e rm s m av.toArray below meth c s.heap [] 0 0 (MQ below (zQc D cI cB a0 wf A) av.toArray s mc ms A) (F0 m 0 ls [])) : zMc l y wy rm D cI cB av ws a0 wf mc ms := by
  intro sz
  refine Met.ofW (cc := cc) (maxL := maxL) (ret := ret) hy hw ?_
  intro p e s m args below meth c s₁ B hml hv
  obtain ⟨rfl, hsz, hP, hK, hD0⟩ := hv
  have hts := atoms_spec (ws := wy) B.pre
  have hin : meth.name = "<init>" := ((name_of_methodNamed B.named B.method).1).trans hnm
  subst hsz
  have hD := hD0.self (sz := s.heap.size)
  have hl := lv_entry av (n := maxL) hlen
  rw [lg_entry_eq]
  exact body p e s m below meth c (va_A ws s.heap.size) _ B.exec B.bytes hml B.returns (findClass_of_methodNamed B.named) hts B.notSynchronized hin hK hP hD va_S.rf (fun q h => Or.inr h) hl
theorem z_mapR (wr : va_W) (x : va_W) : (List.range wr.length).map (fun i => (wr ++ x)[i]?) = wr.map some := by
  apply List.ext_getElem
  · simp
  · intro i h1 h2
    have hi : i < wr.length := by simpa using h1
    rw [List.getElem_map, List.getElem_range, List.getElem?_append_left hi, List.getElem_map, List.getElem?_eq_getElem hi]
theorem z_mapC (wr : va_W) (x : Nat × va_E) : [wr.length].map (fun i => (wr ++ [x])[i]?) = [x].map some := by
  simp
theorem z_ndN : ∀ l : List Nat, l.Nodup → va_nd l = true
  | [], _ => rfl
  | a :: l, h => by
    obtain ⟨h1, h2⟩ := List.nodup_cons.mp h
    rw [va_nd, z_ndN l h2, Bool.and_true, decide_eq_true_iff]
    exact h1
theorem z_ndR (n : Nat) : va_nd (List.range n) = true := z_ndN _ List.nodup_range
section ZR5
variable {p : Program} {l : Launch} {e : Env} {R : Room} {s : State} {m : MethodId} {args : Array Value} {below : List Frame} {meth : Method} {c : Code} {H : Heap} {locs : List Loc} {cells slots : Nat} {Q : State → Prop}
variable {pc : Nat} {ls : Array Slot} {rest : List Value} {A : Nat → Prop} {D : va_G} {cI cB : ClassId} {cc : ByteArray} {H0 : Heap} {ws : va_W}
theorem zretC {a0 mc ms : Nat} {wf : (Nat → Nat) → va_W} {h : Nat → Nat} (hx : p.tables.exec = Jvm.exec) (hb : c.code = cc) (hr : meth.sig.returnType = none) (hlocks : meth.locks = false) (hK : va_K D vwCl [(cI, .int), (cB, .byte)] s) (hP : va_P D vwCl (wf h) H) (hD : va_D A (wf h)) (h0 : h 0 = a0) (hS : va_S A s.heap H locs) (hdg : decode cc pc = .ok (.return_, 1)) : W p l e R s m args below meth c H locs mc ms (MQ below (zQc D cI cB a0 wf A) args s mc ms A) (F0 m pc ls []) :=
  W.vret hx hb hr (fun t ht hW => ⟨⟨h, rfl, h0, by rw [ht]; exact hP, va_K.moved hW.alike hK, hD⟩, hS.F ht⟩) hS.2.2 hdg
theorem znewI (hx : p.tables.exec = Jvm.exec) (hb : c.code = cc) (harr : (Cond.arrayClass .int).before args s = true) (hK : va_K D vwCl [(cI, .int), (cB, .byte)] s) (hP : va_P D vwCl ws H) (hD : va_D A ws) (hS : va_S A H0 H locs) (hA : ∀ q : Nat, H0.size ≤ q → A q) {n : Int32} {N : Nat} (hn : ¬ n < 0) (hN : n.toNatClampNeg = N) (hby : N ≤ 1000) (hcells : cells + 1 ≤ R.cells) (hslots : slots + N ≤ R.slots) (hdg : decode cc pc = .ok (.newarray .int, 2))
    (kk : ∀ (q : Nat) (H1 : Heap), va_P D vwCl (ws ++ [(q, .inl (cI, N, .inl (fun _ => 0)))]) H1 → va_D A (ws ++ [(q, .inl (cI, N, .inl (fun _ => 0)))]) → va_S A H0 H1 locs → W p l e R s m args below meth c H1 locs (cells + 1) (slots + N) Q (F0 m (pc + 2) ls (.ref q :: rest))) : W p l e R s m args below meth c H locs cells slots Q (F0 m pc ls (.int n :: rest)) := by
  refine va_newa (atype := .int) (ty := .int) (a0 := (N, .inl (fun _ => 0))) hx hb harr rfl hK hP hD hS hA (fun _ => rfl) hn hN (by show N * 4 ≤ _; omega) hcells hslots hdg (fun q cA H1 hK2 hP2 hD2 hS2 => ?_)
  have h1 : s.vm.findClass ("[" ++ FieldType.int.toString) = some cA := (hK2.2 2 (cA, .int) rfl).2
  have h2 : s.vm.findClass ("[" ++ FieldType.int.toString) = some cI := (hK.2 0 (cI, .int) rfl).2
  have e : cA = cI := Option.some.inj (h1.symm.trans h2)
  subst e
  exact kk q H1 hP2 hD2 hS2
theorem znewB (hx : p.tables.exec = Jvm.exec) (hb : c.code = cc) (harr : (Cond.arrayClass .byte).before args s = true) (hK : va_K D vwCl [(cI, .int), (cB, .byte)] s) (hP : va_P D vwCl ws H) (hD : va_D A ws) (hS : va_S A H0 H locs) (hA : ∀ q : Nat, H0.size ≤ q → A q) {n : Int32} {N : Nat} (hn : ¬ n < 0) (hN : n.toNatClampNeg = N) (hby : N ≤ 1000) (hcells : cells + 1 ≤ R.cells) (hslots : slots + N ≤ R.slots) (hdg : decode cc pc = .ok (.newarray .byte, 2))
    (kk : ∀ (q : Nat) (H1 : Heap), va_P D vwCl (ws ++ [(q, .inl (cB, N, .inl (fun _ => 0)))]) H1 → va_D A (ws ++ [(q, .inl (cB, N, .inl (fun _ => 0)))]) → va_S A H0 H1 locs → W p l e R s m args below meth c H1 locs (cells + 1) (slots + N) Q (F0 m (pc + 2) ls (.ref q :: rest))) : W p l e R s m args below meth c H locs cells slots Q (F0 m pc ls (.int n :: rest)) := by
  refine va_newa (atype := .byte) (ty := .byte) (a0 := (N, .inl (fun _ => 0))) hx hb harr rfl hK hP hD hS hA (fun _ => rfl) hn hN (by show N * 1 ≤ _; omega) hcells hslots hdg (fun q cA H1 hK2 hP2 hD2 hS2 => ?_)
  have h1 : s.vm.findClass ("[" ++ FieldType.byte.toString) = some cA := (hK2.2 2 (cA, .byte) rfl).2
  have h2 : s.vm.findClass ("[" ++ FieldType.byte.toString) = some cB := (hK.2 1 (cB, .byte) rfl).2
  have e : cA = cB := Option.some.inj (h1.symm.trans h2)
  subst e
  exact kk q H1 hP2 hD2 hS2
variable {y : MethodName} {bytes : ByteArray} {maxL nL n index mc ms : Nat} {wy Ts : List Cond} {rm : Room} {own host : String} {b : Addr} {As : List Value} {e0 : va_E} {wr : va_W} {wf : (Nat → Nat) → va_W}
/-- behind a constructor's call: what it made stands behind what was there -/
theorem z_joinC {H1 : Heap} {h : Nat → Nat} (hP : va_P D vwCl (wr ++ [(b, e0)]) H) (hD : va_D A (wr ++ [(b, e0)])) (hS : va_S A H0 H locs) (hA : ∀ q : Nat, H0.size ≤ q → A q) (hk : ∀ q : Nat, q < H.size → ¬ va_A [(b, e0)] H.size q → H1[q]? = H[q]?) (hP1 : va_P D vwCl (wf h) H1) (hD1 : va_D (va_A [(b, e0)] H.size) (wf h)) : va_P D vwCl (wr ++ wf h) H1 ∧ va_D A (wr ++ wf h) :=
  va_join hP hD [wr.length] (List.range wr.length) (z_mapC wr (b, e0)) (z_mapR wr _) (z_ndR _) (fun i hi hc => by
    have h1 := List.mem_range.mp hi
    have h2 := List.mem_singleton.mp hc
    omega) hk (va_free (wc := [(b, e0)]) hD hS hA [wr.length] (z_mapC wr (b, e0))) hP1 hD1
theorem zcallC (S : CallFix p m c cc nL s args Ts own) (hM : zMc l y wy rm D cI cB (.ref b :: As) [(b, e0)] b wf mc ms) (cw : CallB R s args own index y bytes maxL none wy rm mc ms n ∧ y.name = "<init>" ∧ (Cond.instanceMethod y).before args s = true) (hK : va_K D vwCl [(cI, .int), (cB, .byte)] s) (hP : va_P D vwCl (wr ++ [(b, e0)]) H) (hD : va_D A (wr ++ [(b, e0)])) (hS : va_S A H0 H locs) (hA : ∀ q : Nat, H0.size ≤ q → A q)
    (hAs : As.length = n) (hls : ls.size = nL) (hroom : (rest.map fun v => v.category).sum ≤ 8) (hdg : decode cc pc = .ok (.invokespecial index, 3)) (hcs : cells + mc ≤ R.cells ∧ slots + ms ≤ R.slots) {st : List Value} (hst : st = As.reverse ++ .ref b :: rest)
    (kk : ∀ (h : Nat → Nat) (H1 : Heap) (locs1 : List Loc), h 0 = b → va_P D vwCl (wr ++ wf h) H1 → va_D A (wr ++ wf h) → va_S A H0 H1 locs1 → W p l e R s m args below meth c H1 locs1 (cells + mc) (slots + ms) Q (F0 m (pc + 3) ls rest)) : W p l e R s m args below meth c H locs cells slots Q (F0 m pc ls st) := by
  subst hst
  have hC := z_mapC wr (b, e0)
  have hPc := hP.sub [wr.length] (z_fm (w2 := [(b, e0)]) hC)
  have hDc := hD.sub [wr.length] rfl hC
  have hFc := va_free (wc := [(b, e0)]) hD hS hA [wr.length] hC
  refine va_callv (va_runI (As := As) (rest := rest) S (hM H.size) cw ⟨zPc_blind, fun U hU hW => ⟨rfl, by rw [hU], by rw [hU]; exact hPc, va_K.moved hW.alike hK, hDc.weaken (fun _ _ _ _ => trivial)⟩⟩ rfl hAs hls rfl (lv_room hroom) hdg hcs) hS (fun q _ h => hFc q h) hFc (fun h t H1 locs2 ht hvm hw hB hz1 hk1 hS2 => ?_)
  obtain ⟨hP1, hK1, hD1⟩ := hB
  rw [ht] at hP1
  obtain ⟨a, b⟩ := z_joinC (wf := wf) (h := h) hP hD hS hA hk1 hP1 hD1
  exact kk h H1 locs2 hw a b hS2
theorem zcallCN (S : CallFix p m c cc nL s args Ts own) (hM : zMc l y wy rm D cI cB (.ref b :: As) [(b, e0)] b wf mc ms) (cw : va_CN R s args own index y host bytes maxL none wy rm mc ms n ∧ y.name = "<init>" ∧ (Cond.instanceMethod y).before args s = true) (hK : va_K D vwCl [(cI, .int), (cB, .byte)] s) (hP : va_P D vwCl (wr ++ [(b, e0)]) H) (hD : va_D A (wr ++ [(b, e0)])) (hS : va_S A H0 H locs) (hA : ∀ q : Nat, H0.size ≤ q → A q)
    (hAs : As.length = n) (hls : ls.size = nL) (hroom : (rest.map fun v => v.category).sum ≤ 8) (hdg : decode cc pc = .ok (.invokespecial index, 3)) (hcs : cells + mc ≤ R.cells ∧ slots + ms ≤ R.slots) {st : List Value} (hst : st = As.reverse ++ .ref b :: rest)
    (kk : ∀ (h : Nat → Nat) (H1 : Heap) (locs1 : List Loc), h 0 = b → va_P D vwCl (wr ++ wf h) H1 → va_D A (wr ++ wf h) → va_S A H0 H1 locs1 → W p l e R s m args below meth c H1 locs1 (cells + mc) (slots + ms) Q (F0 m (pc + 3) ls rest)) : W p l e R s m args below meth c H locs cells slots Q (F0 m pc ls st) := by
  subst hst
  have hC := z_mapC wr (b, e0)
  have hPc := hP.sub [wr.length] (z_fm (w2 := [(b, e0)]) hC)
  have hDc := hD.sub [wr.length] rfl hC
  have hFc := va_free (wc := [(b, e0)]) hD hS hA [wr.length] hC
  refine va_callv (va_runIN (As := As) (rest := rest) S (hM H.size) cw ⟨zPc_blind, fun U hU hW => ⟨rfl, by rw [hU], by rw [hU]; exact hPc, va_K.moved hW.alike hK, hDc.weaken (fun _ _ _ _ => trivial)⟩⟩ rfl hAs hls rfl (lv_room hroom) hdg hcs) hS (fun q _ h => hFc q h) hFc (fun h t H1 locs2 ht hvm hw hB hz1 hk1 hS2 => ?_)
  obtain ⟨hP1, hK1, hD1⟩ := hB
  rw [ht] at hP1
  obtain ⟨a, b⟩ := z_joinC (wf := wf) (h := h) hP hD hS hA hk1 hP1 hD1
  exact kk h H1 locs2 hw a b hS2
end ZR5
