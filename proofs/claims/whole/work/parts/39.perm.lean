/-! orders, one by one, as lists -/
def oG (l : List Nat) (k : Nat) : Nat := l.getD k 0
def oLv (n : Nat) : Nat → List Nat → List (List Nat)
  | 0, p => [p]
  | d + 1, p => (List.range n).flatMap (fun i => bif p.contains i then [] else oLv n d (p ++ [i]))
def oK (l : List Nat) : Nat → Nat
  | 0 => 0
  | K + 1 => bif Nat.ble (oG l K) (oG l (K + 1)) then K + 1 else oK l K
def oJ (l : List Nat) (k : Nat) : Nat → Nat
  | 0 => 0
  | j + 1 => bif Nat.ble (oG l k) (oG l (j + 1)) then j + 1 else oJ l k j
def oS (l : List Nat) (a b : Nat) : List Nat := (l.set a (oG l b)).set b (oG l a)
def oR : Nat → List Nat → Nat → Nat → List Nat
  | 0, l, _, _ => l
  | f + 1, l, a, b => bif Nat.blt a b then oR f (oS l a b) (a + 1) (b - 1) else l
def oN (n : Nat) (l : List Nat) : Option (List Nat) :=
  match oK l (n - 1) with
  | 0 => none
  | k + 1 => some (oR 7 (oS l k (oJ l k (n - 1))) (k + 1) (n - 1))
def oEq : List Nat → List Nat → Bool
  | [], [] => true
  | a :: s, b :: t => bif Nat.beq a b then oEq s t else false
  | _, _ => false
def oLk (n : Nat) (l : List Nat) (t : List (List Nat)) : Bool :=
  match oN n l, t with
  | none, [] => true
  | some m, q :: _ => oEq m q
  | _, _ => false
def oC (n : Nat) : Nat → List (List Nat) → Bool
  | _, [] => true
  | 0, _ :: _ => false
  | f + 1, l :: t => bif oLk n l t then oC n f t else false
theorem oEq_e : ∀ s t, oEq s t = true → s = t
  | [], [], _ => rfl
  | [], _ :: _, h => by cases h
  | _ :: _, [], h => by cases h
  | a :: s, b :: t, h => by
    rw [oEq] at h
    cases c : Nat.beq a b with
    | false => rw [c] at h; cases h
    | true =>
      rw [c] at h
      rw [Nat.eq_of_beq_eq_true c, oEq_e s t h]
set_option maxRecDepth 1000000 in
theorem oC_1 : oC 1 1 (oLv 1 1 []) = true := by decide +kernel
set_option maxRecDepth 1000000 in
theorem oC_2 : oC 2 2 (oLv 2 2 []) = true := by decide +kernel
set_option maxRecDepth 1000000 in
theorem oC_3 : oC 3 6 (oLv 3 3 []) = true := by decide +kernel
set_option maxRecDepth 1000000 in
theorem oC_4 : oC 4 24 (oLv 4 4 []) = true := by decide +kernel
set_option maxRecDepth 1000000 in
theorem oC_5 : oC 5 120 (oLv 5 5 []) = true := by decide +kernel
set_option maxRecDepth 1000000 in
theorem oC_6 : oC 6 720 (oLv 6 6 []) = true := by decide +kernel
set_option maxRecDepth 1000000 in
theorem oC_7 : oC 7 5040 (oLv 7 7 []) = true := by decide +kernel
