/-! both, made, are alike -/
def plZ : zN := fun a i => match a with
  | 0 => if i = 0 then 100 else 110
  | 1 => i
  | 2 => 60
  | 3 => 5
  | 4 => 0
  | 5 => 1
  | 6 => 2
  | 7 => 2
  | 8 => 1
  | 9 => 1
  | 10 => 0
  | _ => 300
def ckV (X : zMm) (L : List (Nat × Nat × Nat)) : Bool := L.all (fun q => decide (X q.1 q.2.1 = nI q.2.2))
def ckX : List (Nat × Nat × Nat) := [(2, 0, 0), (3, 0, 0), (3, 1, 1), (3, 2, 2), (3, 3, 3), (3, 4, 4), (3, 5, 5), (3, 6, 6), (4, 0, 0), (4, 1, 0), (4, 2, 0), (4, 3, 0), (4, 4, 0), (4, 5, 0), (4, 6, 0), (5, 0, 8), (8, 0, 0), (9, 0, 0), (10, 0, 2), (13, 0, 0), (14, 0, 0), (18, 0, 0), (21, 0, 0), (23, 0, 0), (29, 0, 0), (29, 1, 0), (29, 2, 0), (29, 3, 0), (29, 4, 0), (29, 5, 0), (29, 6, 0), (35, 0, 100), (35, 1, 110), (36, 0, 0), (36, 1, 1), (37, 0, 60), (37, 1, 60), (38, 0, 5), (38, 1, 5), (39, 0, 0), (40, 0, 1), (41, 0, 2), (42, 0, 2), (43, 0, 1), (44, 0, 1), (45, 0, 0), (46, 0, 300)]
def ckM : List (Nat × Nat × Nat) := [(0, 0, 0), (3, 0, 1), (3, 1, 0), (3, 2, 300), (4, 0, 2), (5, 0, 100), (5, 1, 110), (6, 0, 2), (7, 0, 0), (7, 1, 60), (7, 2, 5), (7, 3, 1), (7, 4, 60), (7, 5, 5), (8, 0, 1), (9, 0, 0), (9, 1, 1), (10, 0, 0), (10, 1, 1), (10, 2, 2), (10, 3, 3), (10, 4, 4), (10, 5, 5), (10, 6, 6), (10, 7, 0), (10, 8, 0), (10, 9, 0), (10, 10, 0), (10, 11, 0), (10, 12, 0), (10, 13, 0), (11, 0, 0), (12, 0, 0), (13, 0, 0), (15, 0, 0)]
def ckO (o : Option zMm) (L : List (Nat × Nat × Nat)) : Bool := match o with
  | none => false
  | some X => ckV X L
set_option maxRecDepth 1000000 in
theorem ck8 : ckO f_X8_init ckX = true := by decide +kernel
set_option maxRecDepth 1000000 in
theorem ck9 : ckO f_X9_init ckM = true := by decide +kernel
theorem ckO_some {o : Option zMm} {L : List (Nat × Nat × Nat)} (h : ckO o L = true) : ∃ X, o = some X ∧ ∀ a i v, (a, i, v) ∈ L → X a i = nI v := by
  cases o with
  | none => cases h
  | some X => exact ⟨X, rfl, fun a i v hm => of_decide_eq_true (List.all_eq_true.mp h (a, i, v) hm)⟩
theorem inv0 : ∃ X M, f_X8_init = some X ∧ f_X9_init = some M ∧ Inv X M := by
  obtain ⟨X, h1, hX⟩ := ckO_some ck8
  obtain ⟨M, h2, hM⟩ := ckO_some ck9
  have hw : iWF plZ := by
    refine ⟨by decide, fun i hi => ?_, fun i hi => ?_, fun i hi => ?_⟩
    · have hi : i < 2 := hi
      rcases (show i = 0 ∨ i = 1 by omega) with rfl | rfl <;> decide
    · have hi : i < 2 := hi
      rcases (show i = 0 ∨ i = 1 by omega) with rfl | rfl <;> decide
    · have hi : i < 1 := hi
      rcases (show i = 0 by omega) with rfl
      decide
  have x (a i v : Nat) (h : ckX.contains (a, i, v) = true) : X a i = nI v := hX a i v (List.contains_iff_mem.mp h)
  have m (a i v : Nat) (h : ckM.contains (a, i, v) = true) : M a i = nI v := hM a i v (List.contains_iff_mem.mp h)
  have k7 : ∀ k, k < 7 → X 3 k = nI k ∧ X 4 k = 0 ∧ M 10 k = nI k ∧ M 10 (7 + k) = 0 ∧ X 29 k = 0 := fun k hk => by
    rcases (show k = 0 ∨ k = 1 ∨ k = 2 ∨ k = 3 ∨ k = 4 ∨ k = 5 ∨ k = 6 by omega) with rfl | rfl | rfl | rfl | rfl | rfl | rfl
    · exact ⟨x 3 0 0 (by decide), x 4 0 0 (by decide), m 10 0 0 (by decide), m 10 7 0 (by decide), x 29 0 0 (by decide)⟩
    · exact ⟨x 3 1 1 (by decide), x 4 1 0 (by decide), m 10 1 1 (by decide), m 10 8 0 (by decide), x 29 1 0 (by decide)⟩
    · exact ⟨x 3 2 2 (by decide), x 4 2 0 (by decide), m 10 2 2 (by decide), m 10 9 0 (by decide), x 29 2 0 (by decide)⟩
    · exact ⟨x 3 3 3 (by decide), x 4 3 0 (by decide), m 10 3 3 (by decide), m 10 10 0 (by decide), x 29 3 0 (by decide)⟩
    · exact ⟨x 3 4 4 (by decide), x 4 4 0 (by decide), m 10 4 4 (by decide), m 10 11 0 (by decide), x 29 4 0 (by decide)⟩
    · exact ⟨x 3 5 5 (by decide), x 4 5 0 (by decide), m 10 5 5 (by decide), m 10 12 0 (by decide), x 29 5 0 (by decide)⟩
    · exact ⟨x 3 6 6 (by decide), x 4 6 0 (by decide), m 10 6 6 (by decide), m 10 13 0 (by decide), x 29 6 0 (by decide)⟩
  refine ⟨X, M, h1, h2, plZ, 0, hw, by decide, ?_, ?_, ?_, ?_, ⟨0, 0, ?_⟩, ⟨0, 0, ?_⟩, ⟨0, ?_⟩, ⟨0, fun _ => 0, ?_⟩, ?_, ?_⟩
  · refine ⟨⟨x 41 0 2 (by decide), x 42 0 2 (by decide), x 43 0 1 (by decide), x 44 0 1 (by decide), x 45 0 0 (by decide), x 46 0 300 (by decide)⟩, fun i hi => ?_, fun i hi => ?_, fun i hi => ?_⟩
    · have hi : i < 2 := hi
      rcases (show i = 0 ∨ i = 1 by omega) with rfl | rfl
      · exact x 35 0 100 (by decide)
      · exact x 35 1 110 (by decide)
    · have hi : i < 2 := hi
      rcases (show i = 0 ∨ i = 1 by omega) with rfl | rfl
      · exact ⟨x 36 0 0 (by decide), x 37 0 60 (by decide), x 38 0 5 (by decide)⟩
      · exact ⟨x 36 1 1 (by decide), x 37 1 60 (by decide), x 38 1 5 (by decide)⟩
    · have hi : i < 1 := hi
      rcases (show i = 0 by omega) with rfl
      exact ⟨x 39 0 0 (by decide), x 40 0 1 (by decide)⟩
  · refine ⟨⟨m 4 0 2 (by decide), m 6 0 2 (by decide), m 8 0 1 (by decide), m 3 0 1 (by decide), m 3 1 0 (by decide), m 3 2 300 (by decide)⟩, fun i hi => ?_, fun i hi => ?_, fun i hi => ?_⟩
    · have hi : i < 2 := hi
      rcases (show i = 0 ∨ i = 1 by omega) with rfl | rfl
      · exact m 5 0 100 (by decide)
      · exact m 5 1 110 (by decide)
    · have hi : i < 2 := hi
      rcases (show i = 0 ∨ i = 1 by omega) with rfl | rfl
      · exact ⟨m 7 0 0 (by decide), m 7 1 60 (by decide), m 7 2 5 (by decide)⟩
      · exact ⟨m 7 3 1 (by decide), m 7 4 60 (by decide), m 7 5 5 (by decide)⟩
    · have hi : i < 1 := hi
      rcases (show i = 0 by omega) with rfl
      exact ⟨m 9 0 0 (by decide), m 9 1 1 (by decide)⟩
  · exact ⟨by decide, x 2 0 0 (by decide), m 0 0 0 (by decide), fun i hi => absurd hi (Nat.not_lt_zero _)⟩
  · exact ⟨fun k => k, ⟨fun k hk => ⟨(k7 k hk).1, hk⟩, fun j k _ _ e => e⟩, len0 hw _ (fun k hk => (k7 k hk).2.1), fun k hk => ⟨(k7 k hk).2.2.1.trans (k7 k hk).1.symm, (k7 k hk).2.2.2.1.trans (k7 k hk).2.1.symm⟩⟩
  · exact ⟨by decide, by decide, x 5 0 8 (by decide), x 8 0 0 (by decide), x 9 0 0 (by decide), m 12 0 0 (by decide), fun d hd => absurd hd (Nat.not_lt_zero _)⟩
  · exact ⟨by decide, by decide, x 10 0 2 (by decide), x 13 0 0 (by decide), x 14 0 0 (by decide), m 11 0 0 (by decide), fun d hd => absurd hd (Nat.not_lt_zero _)⟩
  · exact ⟨by decide, x 18 0 0 (by decide), m 13 0 0 (by decide), fun d hd => absurd hd (Nat.not_lt_zero _)⟩
  · exact ⟨by decide, x 21 0 0 (by decide), m 15 0 0 (by decide), fun d hd => absurd hd (Nat.not_lt_zero _)⟩
  · exact Or.inl (x 23 0 0 (by decide))
  · exact fun k hk => (k7 k hk).2.2.2.2
