/-! ways to have parts from bolts, one by one, as lists -/
def bLv : Nat → List Nat → Nat → List (List Nat)
  | 0, p, _ => [p]
  | d + 1, p, g => (List.range (g + 1)).flatMap (fun i => bLv d (p ++ [i]) (Nat.max g (i + 1)))
def bm (l : List Nat) : Nat → Nat
  | 0 => 0
  | k + 1 => bif Nat.ble (oG l k) (bm l k) then bm l k else oG l k
def bX : Nat → List Nat → Option (List Nat)
  | 0, _ => none
  | k + 1, l => bif Nat.ble (oG l (k + 1)) (bm l (k + 1)) then some (l.set (k + 1) (oG l (k + 1) + 1)) else bX k (l.set (k + 1) 0)
def bLk (n : Nat) (l : List Nat) (t : List (List Nat)) : Bool :=
  match bX (n - 1) l, t with
  | none, [] => true
  | some m, q :: _ => oEq m q
  | _, _ => false
def bC (n : Nat) : Nat → List (List Nat) → Bool
  | _, [] => true
  | 0, _ :: _ => false
  | f + 1, l :: t => bif bLk n l t then bC n f t else false
def bH (n : Nat) : Bool :=
  match bLv n [] 0 with
  | [] => false
  | l :: t => oEq l (List.replicate n 0) && bC n 1000 (l :: t)
set_option maxRecDepth 1000000 in
theorem bC_all : ∀ n, n < 8 → 1 ≤ n → bH n = true := by decide +kernel
theorem b_list {n : Nat} (h1 : 1 ≤ n) (h7 : n ≤ 7) : ∃ t, bLv n [] 0 = List.replicate n 0 :: t ∧ bC n 1000 (List.replicate n 0 :: t) = true := by
  have h := bC_all n (by omega) h1
  unfold bH at h
  cases c : bLv n [] 0 with
  | nil => rw [c] at h; cases h
  | cons l t =>
    rw [c] at h
    have h := (Bool.and_eq_true_iff).mp h
    have e := oEq_e _ _ h.1
    subst e
    exact ⟨t, rfl, h.2⟩
/-! what a way costs -/
def bL (ln : Nat → Nat) (p : List Nat) (b k : Nat) : Nat := oZ (fun j => if oG p j = b then ln j else 0) k
def bOK (ln : Nat → Nat) (C : Nat) (p : List Nat) : Nat → Bool
  | 0 => true
  | k + 1 => bOK ln C p k && Nat.ble (bL ln p (oG p k) (k + 1)) C
def bMx (p : List Nat) : Nat → Nat
  | 0 => 0
  | k + 1 => max (bMx p k) (oG p k + 1)
def bc (ln : Nat → Nat) (C : Nat) (k : Nat) (p : List Nat) : Nat := bif bOK ln C p k then bMx p k else 99
theorem bL_c {ln : Nat → Nat} {p q : List Nat} {k : Nat} (h : ∀ j, j < k → oG p j = oG q j) (b : Nat) : bL ln p b k = bL ln q b k := oZ_c (fun j hj => by rw [h j hj])
theorem bOK_c {ln : Nat → Nat} {C : Nat} {p q : List Nat} : ∀ {k : Nat}, (∀ j, j < k → oG p j = oG q j) → bOK ln C p k = bOK ln C q k
  | 0, _ => rfl
  | k + 1, h => by rw [bOK, bOK, bOK_c (fun j hj => h j (by omega)), h k (by omega), bL_c h]
theorem bMx_c {p q : List Nat} : ∀ {k : Nat}, (∀ j, j < k → oG p j = oG q j) → bMx p k = bMx q k
  | 0, _ => rfl
  | k + 1, h => by rw [bMx, bMx, bMx_c (fun j hj => h j (by omega)), h k (by omega)]
theorem bL_b {ln : Nat → Nat} (h : ∀ i, i < 7 → ln i ≤ 299) (p : List Nat) (b : Nat) {k : Nat} (hk : k ≤ 7) : bL ln p b k ≤ 299 * 7 := by
  refine Nat.le_trans (oZ_b (c := 299) k (fun i hi => ?_)) (Nat.mul_le_mul_left _ hk)
  show (if oG p i = b then ln i else 0) ≤ 299
  split
  · exact h i (by omega)
  · omega
theorem bMx_le {p : List Nat} {n : Nat} : ∀ {k : Nat}, (∀ j, j < k → oG p j < n) → bMx p k ≤ n
  | 0, _ => Nat.zero_le _
  | k + 1, h => by
    have h1 := bMx_le (k := k) (fun j hj => h j (by omega))
    have h2 := h k (by omega)
    rw [bMx]
    omega
theorem bMx_up {p : List Nat} {j : Nat} : ∀ k, bMx p j ≤ bMx p (j + k)
  | 0 => Nat.le_refl _
  | k + 1 => by
    have h1 := bMx_up (p := p) (j := j) k
    rw [← Nat.add_assoc, bMx]
    omega
theorem bOK_dn {ln : Nat → Nat} {C : Nat} {p : List Nat} {j : Nat} (h : bOK ln C p j = false) : ∀ k, bOK ln C p (j + k) = false
  | 0 => h
  | k + 1 => by rw [← Nat.add_assoc, bOK, bOK_dn h k]; rfl
theorem oG_pre {q s : List Nat} {j : Nat} (h : j < q.length) : oG (q ++ s) j = oG q j := by
  unfold oG
  rw [List.getD_eq_getElem?_getD, List.getD_eq_getElem?_getD, List.getElem?_append_left h]
theorem bLv_pre : ∀ d q g l, l ∈ bLv d q g → ∃ s, l = q ++ s ∧ s.length = d
  | 0, q, g, l, h => by
    rw [bLv] at h
    exact ⟨[], by rw [List.append_nil]; exact List.mem_singleton.mp h, rfl⟩
  | d + 1, q, g, l, h => by
    rw [bLv] at h
    obtain ⟨i, hi, hm⟩ := List.mem_flatMap.mp h
    obtain ⟨s, h1, h2⟩ := bLv_pre d (q ++ [i]) _ l hm
    exact ⟨i :: s, by rw [h1, List.append_assoc]; rfl, by rw [List.length_cons, h2]⟩
theorem bLv_ok : ∀ d p g, g ≤ p.length → (∀ i, i ∈ p → i < g) → ∀ l, l ∈ bLv d p g → l.length = p.length + d ∧ ∀ i, i ∈ l → i < p.length + d
  | 0, p, g, hg, hp, l, hl => by
    rw [bLv] at hl
    rw [List.mem_singleton.mp hl]
    exact ⟨rfl, fun i hi => Nat.lt_of_lt_of_le (hp i hi) hg⟩
  | d + 1, p, g, hg, hp, l, hl => by
    rw [bLv] at hl
    obtain ⟨i, hi, hm⟩ := List.mem_flatMap.mp hl
    have hi := List.mem_range.mp hi
    have e : Nat.max g (i + 1) = max g (i + 1) := rfl
    have hlen : (p ++ [i]).length = p.length + 1 := by rw [List.length_append]; rfl
    obtain ⟨a1, a2⟩ := bLv_ok d (p ++ [i]) _ (by rw [e, hlen]; omega) (fun j hj => by
      rw [e]
      rcases List.mem_append.mp hj with q | q
      · have := hp j q; omega
      · rw [List.mem_singleton.mp q]; omega) l hm
    rw [hlen] at a1 a2
    exact ⟨by rw [a1]; omega, fun j hj => by have := a2 j hj; omega⟩
/-! the first of the least -/
def bU (f : List Nat → Nat) (B : Nat × List Nat) (l : List Nat) : Nat × List Nat := if f l < B.1 then (f l, l) else B
def bJ (f : List Nat → Nat) (L : List (List Nat)) (B : Nat × List Nat) : Prop := (B.1 = 99 ∧ ∀ l, l ∈ L → 99 ≤ f l) ∨ (B.1 < 99 ∧ (∀ l, l ∈ L → B.1 ≤ f l) ∧ L.find? (fun l => Nat.ble (f l) B.1) = some B.2)
theorem find_no {L : List (List Nat)} {f : List Nat → Nat} {b : Nat} (h : ∀ l, l ∈ L → b < f l) : L.find? (fun l => Nat.ble (f l) b) = none := by
  rw [List.find?_eq_none]
  intro l hl q
  have := Nat.le_of_ble_eq_true q
  have := h l hl
  omega
theorem bJ_1 {f : List Nat → Nat} {L : List (List Nat)} {B : Nat × List Nat} (h : bJ f L B) (l : List Nat) : bJ f (L ++ [l]) (bU f B l) := by
  unfold bU
  by_cases c : f l < B.1
  · rw [if_pos c]
    have hB : B.1 ≤ 99 := by rcases h with h | h <;> omega
    have hL : ∀ q, q ∈ L → B.1 ≤ f q := by
      rcases h with ⟨h1, h2⟩ | ⟨h1, h2, h3⟩
      · rw [h1]; exact h2
      · exact h2
    refine Or.inr ⟨by show f l < 99; omega, fun q hq => ?_, ?_⟩
    · show f l ≤ f q
      rcases List.mem_append.mp hq with r | r
      · have := hL q r; omega
      · rw [List.mem_singleton.mp r]; exact Nat.le_refl _
    · show (L ++ [l]).find? (fun q => Nat.ble (f q) (f l)) = some l
      rw [List.find?_append, find_no (fun q hq => by have := hL q hq; omega)]
      have : Nat.ble (f l) (f l) = true := Nat.ble_eq_true_of_le (Nat.le_refl _)
      simp [List.find?, this]
  · rw [if_neg c]
    rcases h with ⟨h1, h2⟩ | ⟨h1, h2, h3⟩
    · refine Or.inl ⟨h1, fun q hq => ?_⟩
      rcases List.mem_append.mp hq with r | r
      · exact h2 q r
      · rw [List.mem_singleton.mp r]; omega
    · refine Or.inr ⟨h1, fun q hq => ?_, ?_⟩
      · rcases List.mem_append.mp hq with r | r
        · exact h2 q r
        · rw [List.mem_singleton.mp r]; omega
      · rw [List.find?_append, h3]
        rfl
theorem bJ_n {f : List Nat → Nat} : ∀ (L2 L : List (List Nat)) (B : Nat × List Nat), bJ f L B → bJ f (L ++ L2) (L2.foldl (bU f) B)
  | [], L, B, h => by rw [List.append_nil]; exact h
  | l :: L2, L, B, h => by
    have := bJ_n L2 (L ++ [l]) _ (bJ_1 h l)
    rw [List.append_assoc] at this
    exact this
