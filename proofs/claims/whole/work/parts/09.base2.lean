def zrI (x y : Int32) : Int32 := x - x / y * y
def zrL (x y : Int64) : Int64 := x - x / y * y
theorem z_in {i : Int32} {n : Nat} (h : (decide (i < 0) || Nat.ble n i.toNatClampNeg) = false) : vp_in i n := by
  intro q
  rcases q with q | q
  · simp [q] at h
  · have := Nat.ble_eq_true_of_le q
    simp [this] at h
section ZR2
variable {p : Program} {l : Launch} {e : Env} {R : Room} {s : State} {m : MethodId} {args : Array Value} {below : List Frame} {meth : Method} {c : Code} {H : Heap} {locs : List Loc} {cells slots : Nat} {Q : State → Prop}
variable {pc : Nat} {ls : Array Slot} {rest : List Value}
theorem z_tc {f : Nat → Int32} {i : Int32} {k : Nat} (h : i.toNatClampNeg = k) (kk : W p l e R s m args below meth c H locs cells slots Q (F0 m pc ls (.int (f k) :: rest))) : W p l e R s m args below meth c H locs cells slots Q (F0 m pc ls (.int (f i.toNatClampNeg) :: rest)) := by
  rw [h]
  exact kk
end ZR2
def zEq (ws ws2 : va_W) : List Nat → Prop
  | [] => True
  | i :: is => ws2[i]? = ws[i]? ∧ zEq ws ws2 is
theorem z_em {ws ws2 : va_W} : ∀ {is : List Nat}, zEq ws ws2 is → is.map (fun i => ws2[i]?) = is.map (fun i => ws[i]?)
  | [], _ => rfl
  | i :: is, h => by rw [List.map_cons, List.map_cons, h.1, z_em h.2]
