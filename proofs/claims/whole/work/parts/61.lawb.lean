/-! THE CLAIM OUT OF ONE WALK OF THE LAW'S BODY. Your part is whole_start (and what it stands on); all else here is the same for every law, but numbers. -/
def R_law : String := "SuitByTailorsLaw"
def lw_P (b : Addr) (xs : List Int32) (args : Array Value) (s : State) : Prop := args = #[.ref b] ∧ s.IntsAt b xs ∧ xs.length ≤ 2048 ∧ (Jvm.Cond.and given_1 narrow_1).before args s = true
def lw_Q (_ : Array Value) (s : State) (o : Outcome) (t : State) : Prop := o = .returned (some (.int 1)) ∧ Framed s o t [] 600000 7302250
def lw_Z (below : List Frame) (a : Array Value) (s : State) : State → Prop := fun t => ∃ o, t.status = .running ∧ Ended t below o ∧ lw_Q a s o t
/-- the law's own end, with 1 on the stack, nothing written that was there before, its room as the claim has it -/
theorem lw_ret {p : Program} {l : Launch} {e : Env} {s : State} {m : MethodId} {below : List Frame} {meth : Method} {c : Code} {b : Nat} (hx : p.tables.exec = Jvm.exec) (hb : c.code = code) (hr : meth.sig.returnType = ret) (hlocks : meth.locks = false) {pc : Nat} {H : Heap} {ls : Array Slot} (hdg : decode code pc = .ok (.ireturn, 1)) : W p l e room_1 s m #[Value.ref b] below meth c H [] 600000 7302250 (lw_Z below #[Value.ref b] s) (F0 m pc ls [.int 1]) := by
  intro T hT X
  obtain ⟨fs, hret, hrun, hended, hW, hframe⟩ := X.leave (v := some (.int 1)) (hlocks := hlocks) (fun h => by rw [hr] at h; cases h)
  have hmeth' : T.vm.method? m = some meth := X.method'
  refine ⟨T.setFrames fs, ?_, .returned (some (.int 1)), hrun, hended, rfl, ⟨_, rfl⟩, hW, hframe⟩
  jvm_step X.here [X.here.top, hx, hb, hdg, hmeth', hr, ret, narrow_b1]
  (try refine ⟨rfl, ?_⟩); (try refine ⟨rfl, ?_⟩)
  first | (intro acts; rw [hret _ acts rfl rfl rfl]) | rw [hret _ _ rfl rfl rfl]
  exact Steps.refl _
/-- what holds at the law's entry: the machine, the code, the tables' words (any of lw_tbl by 'hts w (by decide +kernel)'), the script of L ints xs at the cell b, what the Statement gives of the start (any of its parts by flat_of_before) -/
def lw_At (p : Program) (s : State) (m : MethodId) (meth : Method) (c : Code) (b L : Nat) (xs : Nat → Int32) : Prop :=
  p.tables.exec = Jvm.exec ∧ c.code = code ∧ meth.sig.returnType = ret ∧ c.maxLocals = 4 ∧ s.vm.findClass R_law = some m.cls ∧ (∀ w ∈ lw_tbl, w.before #[Value.ref b] s = true) ∧ va_X b L xs s s.heap ∧ b < s.heap.size ∧ meth.locks = false ∧ (Jvm.Cond.and given_1 narrow_1).before #[Value.ref b] s = true
theorem ad1 (i : Nat) : nI (i + 1) = nI i + 1 := nI_succ i
theorem ad2 (i : Nat) : nI (i + 2) = nI i + 2 := (n_add i 2).symm
theorem ad3 (i : Nat) : nI (i + 3) = nI i + 3 := (n_add i 3).symm
theorem ad4 (i : Nat) : nI (i + 4) = nI i + 4 := (n_add i 4).symm
def zLC (p : Program) (s : State) (m : MethodId) (c : Code) (b L : Nat) (xs : Nat → Int32) (A : Nat → Prop) (D : va_G) (cI cB : ClassId) : Prop := p.tables.exec = Jvm.exec ∧ c.code = code ∧ c.maxLocals = 4 ∧ s.vm.findClass R_law = some m.cls ∧ (∀ w ∈ lw_tbl, w.before #[Value.ref b] s = true) ∧ va_X b L xs s s.heap ∧ ¬ A b ∧ b < s.heap.size ∧ va_K D vwCl [(cI, .int), (cB, .byte)] s ∧ ∀ q : Nat, s.heap.size ≤ q → A q
/-- a place of the law's walk: the class's cells hX, X beside the reference's hM, M; i the place in the script -/
def zAtL (p : Program) (l : Launch) (e : Env) (s : State) (m : MethodId) (below : List Frame) (meth : Method) (c : Code) (b : Nat) (A : Nat → Prop) (D : va_G) (cI cB : ClassId) (hX hM : Nat → Nat) (X M : zMm) (i pc : Nat) : Prop := ∀ (H : Heap) (locs : List Loc) (ls : Array Slot), va_P D vwCl (w8 cI cB hX X ++ w9 cI cB hM M) H → va_D A (w8 cI cB hX X ++ w9 cI cB hM M) → va_S A s.heap H locs → lv_has ls 4 [(0, .ref b), (1, .ref (hX 0)), (2, .ref (hM 0)), (3, .int (nI i))] → W p l e room_1 s m #[Value.ref b] below meth c H locs 63 1400 (lw_Z below #[Value.ref b] s) (F0 m pc ls [])
theorem z_mapS (wa wb : va_W) : ((List.range wb.length).map (fun i => wa.length + i)).map (fun i => (wa ++ wb)[i]?) = wb.map some := by
  apply List.ext_getElem
  · simp
  · intro i h1 h2
    have hi : i < wb.length := by simpa using h1
    rw [List.getElem_map, List.getElem_map, List.getElem_range, List.getElem?_append_right (by omega), List.getElem_map, Nat.add_sub_cancel_left, List.getElem?_eq_getElem hi]
theorem z_ndS (n k : Nat) : va_nd ((List.range n).map (fun i => k + i)) = true := by
  refine z_ndN _ ?_
  rw [List.Nodup, List.pairwise_map]
  exact (List.nodup_range (n := n)).imp (fun h e => h (by omega))
section ZR7
variable {p : Program} {l : Launch} {e : Env} {R : Room} {s : State} {m : MethodId} {args : Array Value} {below : List Frame} {meth : Method} {c : Code} {H : Heap} {locs : List Loc} {cells slots : Nat} {Q : State → Prop}
variable {pc : Nat} {ls : Array Slot} {rest : List Value} {A : Nat → Prop} {D : va_G} {cI cB : ClassId} {cc : ByteArray} {H0 : Heap}
variable {wa wb wa2 : va_W} {y : MethodName} {bytes : ByteArray} {maxL nL n index : Nat} {ret : Option FieldType} {wy Ts : List Cond} {rm : Room} {own C : String} {b : Addr} {As : List Value} {r : Int32} {q0 : vw_C} {fs : List Value}
/-- a call whose cells stand first: they come to stand last -/
theorem zcallL (S : CallFix p m c cc nL s args Ts own) (hM : zMi l y wy rm D cI cB (.ref b :: As) wa r wa2) (cw : CallW R s args own C index y bytes maxL ret wy rm 0 0 n) (hK : va_K D vwCl [(cI, .int), (cB, .byte)] s) (hP : va_P D vwCl (wa ++ wb) H) (hD : va_D A (wa ++ wb)) (hS : va_S A H0 H locs) (hA : ∀ q : Nat, H0.size ≤ q → A q) (ci0 : Nat) (hrc : wa[0]? = some (b, .inr (ci0, fs))) (hcl : vwCl[ci0]? = some q0) (hq0 : q0.1 = C)
    (hAs : As.length = n) (hls : ls.size = nL) (hroom : (rest.map fun v => v.category).sum ≤ 8) (hdg : decode cc pc = .ok (.invokevirtual index, 3)) (hcs : cells ≤ R.cells ∧ slots ≤ R.slots) {st : List Value} (hst : st = As.reverse ++ .ref b :: rest)
    (kk : ∀ (H1 : Heap) (locs1 : List Loc), va_P D vwCl (wb ++ wa2) H1 → va_D A (wb ++ wa2) → va_S A H0 H1 locs1 → W p l e R s m args below meth c H1 locs1 cells slots Q (F0 m (pc + 3) ls (.int r :: rest))) : W p l e R s m args below meth c H locs cells slots Q (F0 m pc ls st) := by
  subst hst
  subst hq0
  have hC := z_mapR wa wb
  have hPc := hP.sub (List.range wa.length) (z_fm (w2 := wa) hC)
  have hDc := hD.sub (List.range wa.length) (z_ndR _) hC
  have hFc := va_free (wc := wa) hD hS hA (List.range wa.length) hC
  refine va_calli (va_runV (As := As) (rest := rest) S (hM H.size) cw ⟨zPc_blind, va_recv hK hPc hcl hrc, fun U hU hW => ⟨rfl, by rw [hU], by rw [hU]; exact hPc, va_K.moved hW.alike hK, hDc.weaken (fun _ _ _ _ => trivial)⟩⟩ rfl hAs hls rfl (lv_room hroom) hdg hcs) hS (fun q _ h => hFc q h) hFc (fun r2 u t H1 locs2 ht hvm hw hB hz1 hk1 hS2 => ?_)
  obtain ⟨hP1, hK1, hD1⟩ := hB
  rw [ht] at hP1
  subst hw
  obtain ⟨a, b⟩ := va_join hP hD (List.range wa.length) ((List.range wb.length).map (fun i => wa.length + i)) hC (z_mapS wa wb) (z_ndS _ _) (fun i hi hc => by
    obtain ⟨k, -, rfl⟩ := List.mem_map.mp hi
    have := List.mem_range.mp hc
    omega) hk1 hFc hP1 hD1
  exact kk H1 locs2 a b hS2
end ZR7
