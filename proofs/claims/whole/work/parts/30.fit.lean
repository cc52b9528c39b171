/-! blocks of a row -/
def zput (f g : Nat → Int32) (b n : Nat) : Nat → Int32 := fun i => if b ≤ i ∧ i < b + n then g (i - b) else f i
theorem zput_0 (f g : Nat → Int32) (b : Nat) : zput f g b 0 = f := by
  funext i
  unfold zput
  rw [if_neg (by omega)]
theorem zput_s (f g : Nat → Int32) (b k : Nat) : upd (zput f g b k) (b + k) (g k) = zput f g b (k + 1) := by
  funext i
  by_cases h : i = b + k
  · subst h
    rw [up_s]
    unfold zput
    rw [if_pos (by omega), show b + k - b = k by omega]
  · rw [up_n _ _ h]
    unfold zput
    by_cases h2 : b ≤ i ∧ i < b + k
    · rw [if_pos h2, if_pos (by omega)]
    · rw [if_neg h2, if_neg (by omega)]
theorem zput_in (f g : Nat → Int32) {b n j : Nat} (h : j < n) : zput f g b n (b + j) = g j := by
  unfold zput
  rw [if_pos (by omega), show b + j - b = j by omega]
theorem zput_out (f g : Nat → Int32) {b n i : Nat} (h : i < b ∨ b + n ≤ i) : zput f g b n i = f i := by
  unfold zput
  rw [if_neg (by omega)]
theorem push_loop_a {P P1 : zMm} {nx : Nat} (hnx : nx < 8) (h4 : P 4 0 = nI nx) : ∀ m k n, k + m = 7 → m < n → L_X2a_push_2 P1 n (nI k) (zs (zs P 1 (zput (P 1) (P1 0) (7 * nx) k)) 2 (zput (P 2) (P1 1) (7 * nx) k)) = some (nI 7, zs (zs P 1 (zput (P 1) (P1 0) (7 * nx) 7)) 2 (zput (P 2) (P1 1) (7 * nx) 7)) := by
  intro m
  induction m with
  | zero =>
    intro k n hk hn
    obtain ⟨n, rfl⟩ : ∃ n', n = n' + 1 := ⟨n - 1, by omega⟩
    rw [L_X2a_push_2, if_pos (by rw [n_7, n_le (by omega) (by omega)]; omega), show k = 7 by omega]
  | succ m ih =>
    intro k n hk hn
    obtain ⟨n, rfl⟩ : ∃ n', n = n' + 1 := ⟨n - 1, by omega⟩
    have e4 : ∀ A B, (zs (zs P 1 A) 2 B) 4 0 = nI nx := fun A B => h4
    have e1 : ∀ A B, (zs (zs P 1 A) 2 B) 1 = A := fun A B => rfl
    have e2 : ∀ A B, (zs (zs P 1 A) 2 B) 2 = B := fun A B => rfl
    have ec : ∀ A B C, zs (zs (zs P 1 A) 2 B) 1 C = zs (zs P 1 C) 2 B := fun A B C => by rw [zs_comm _ _ _ (by decide : (2 : Nat) ≠ 1), zs_zs]
    rw [L_X2a_push_2, if_neg (by rw [n_7, n_le (by omega) (by omega)]; omega), pl_k rfl (by omega) (by omega), e4, pw_k (k := 7 * nx + k) (by rw [n_7, n_mul, n_add, Nat.mul_comm]) (by omega) (by omega), e1, ec, zput_s, pl_k rfl (by omega) (by omega), e4, pw_k (k := 7 * nx + k) (by rw [n_7, n_mul, n_add, Nat.mul_comm]) (by omega) (by omega), e2, zs_zs, zput_s, pv, n_1, n_add]
    exact ih (k + 1) n (by omega) (by omega)
theorem push_a {P P1 : zMm} {nx dn : Nat} (hnx : nx < 8) (hdn : dn ≤ 8) (h0 : P 0 0 = nI 8) (h3 : P 3 0 = nI dn) (h4 : P 4 0 = nI nx) : f_X2a_push P P1 = some (zs (zs (zs (zs P 1 (zput (P 1) (P1 0) (7 * nx) 7)) 2 (zput (P 2) (P1 1) (7 * nx) 7)) 4 (fun _ => nI ((nx + 1) % 8))) 3 (fun _ => nI (min (dn + 1) 8))) := by
  have e := push_loop_a (P := P) (P1 := P1) hnx h4 7 0 100000 (by omega) (by omega)
  rw [zput_0, zput_0, zs_self, zs_self] at e
  have e : L_X2a_push_2 P1 100000 0 P = _ := e
  unfold f_X2a_push
  rw [pb2 e]
  have k1 : (if (zs (zs P 1 (zput (P 1) (P1 0) (7 * nx) 7)) 2 (zput (P 2) (P1 1) (7 * nx) 7)) 0 0 ≤ ((zs (zs P 1 (zput (P 1) (P1 0) (7 * nx) 7)) 2 (zput (P 2) (P1 1) (7 * nx) 7)) 4 0) + 1 then some (0 : Int32) else some (((zs (zs P 1 (zput (P 1) (P1 0) (7 * nx) 7)) 2 (zput (P 2) (P1 1) (7 * nx) 7)) 4 0) + 1)) = some (nI ((nx + 1) % 8)) := by
    show (if P 0 0 ≤ P 4 0 + 1 then some (0 : Int32) else some (P 4 0 + 1)) = _
    rw [h0, h4, n_1, n_add]
    by_cases c : nx + 1 = 8
    · rw [if_pos (by rw [n_le (by omega) (by omega)]; omega), c]
      rfl
    · rw [if_neg (by rw [n_le (by omega) (by omega)]; omega), Nat.mod_eq_of_lt (by omega)]
  rw [pb1 k1, pv, pv]
  have k2 : ∀ F, (if (zs (zs (zs P 1 (zput (P 1) (P1 0) (7 * nx) 7)) 2 (zput (P 2) (P1 1) (7 * nx) 7)) 4 F) 0 0 < ((zs (zs (zs P 1 (zput (P 1) (P1 0) (7 * nx) 7)) 2 (zput (P 2) (P1 1) (7 * nx) 7)) 4 F) 3 0) + 1 then (zs (zs (zs P 1 (zput (P 1) (P1 0) (7 * nx) 7)) 2 (zput (P 2) (P1 1) (7 * nx) 7)) 4 F) 0 0 else ((zs (zs (zs P 1 (zput (P 1) (P1 0) (7 * nx) 7)) 2 (zput (P 2) (P1 1) (7 * nx) 7)) 4 F) 3 0) + 1) = nI (min (dn + 1) 8) := by
    intro F
    show (if P 0 0 < P 3 0 + 1 then P 0 0 else P 3 0 + 1) = _
    rw [h0, h3, n_1, n_add]
    by_cases c : 8 < dn + 1
    · rw [if_pos ((n_lt (by omega) (by omega)).mpr c), Nat.min_eq_right (by omega)]
    · rw [if_neg (fun q => c ((n_lt (by omega) (by omega)).mp q)), Nat.min_eq_left (by omega)]
  rw [k2, pv]
theorem pop_loop_a {P P1 : zMm} {q : Nat} (hq : q < 8) (h4 : P 4 0 = nI q) : ∀ m k n, k + m = 7 → m < n → L_X2a_popInto_46 P n (nI k) (zs (zs P1 0 (zput (P1 0) (fun j => P 1 (7 * q + j)) 0 k)) 1 (zput (P1 1) (fun j => P 2 (7 * q + j)) 0 k)) = some (nI 7, zs (zs P1 0 (zput (P1 0) (fun j => P 1 (7 * q + j)) 0 7)) 1 (zput (P1 1) (fun j => P 2 (7 * q + j)) 0 7)) := by
  intro m
  induction m with
  | zero =>
    intro k n hk hn
    obtain ⟨n, rfl⟩ : ∃ n', n = n' + 1 := ⟨n - 1, by omega⟩
    rw [L_X2a_popInto_46, if_pos (by rw [n_7, n_le (by omega) (by omega)]; omega), show k = 7 by omega]
  | succ m ih =>
    intro k n hk hn
    obtain ⟨n, rfl⟩ : ∃ n', n = n' + 1 := ⟨n - 1, by omega⟩
    have e1 : ∀ A B, (zs (zs P1 0 A) 1 B) 0 = A := fun A B => rfl
    have e2 : ∀ A B, (zs (zs P1 0 A) 1 B) 1 = B := fun A B => rfl
    have ec : ∀ A B C, zs (zs (zs P1 0 A) 1 B) 0 C = zs (zs P1 0 C) 1 B := fun A B C => by rw [zs_comm _ _ _ (by decide : (1 : Nat) ≠ 0), zs_zs]
    have s1 := zput_s (P1 0) (fun j => P 1 (7 * q + j)) 0 k
    have s2 := zput_s (P1 1) (fun j => P 2 (7 * q + j)) 0 k
    rw [Nat.zero_add] at s1 s2
    rw [L_X2a_popInto_46, if_neg (by rw [n_7, n_le (by omega) (by omega)]; omega), h4, pl_k (k := 7 * q + k) (by rw [n_7, n_mul, n_add, Nat.mul_comm]) (by omega) (by omega), pw_k rfl (by omega) (by omega), e1, ec, s1, pl_k (k := 7 * q + k) (by rw [n_7, n_mul, n_add, Nat.mul_comm]) (by omega) (by omega), pw_k rfl (by omega) (by omega), e2, zs_zs, s2, pv, n_1, n_add]
    exact ih (k + 1) n (by omega) (by omega)
theorem pop_a {P P1 : zMm} {nx dn : Nat} (hnx : nx < 8) (hdn : dn ≤ 8) (hd0 : 0 < dn) (h0 : P 0 0 = nI 8) (h3 : P 3 0 = nI dn) (h4 : P 4 0 = nI nx) : f_X2a_popInto P P1 = some (zs (zs P 3 (fun _ => nI (dn - 1))) 4 (fun _ => nI ((nx + 7) % 8)), zs (zs P1 0 (zput (P1 0) (fun j => P 1 (7 * ((nx + 7) % 8) + j)) 0 7)) 1 (zput (P1 1) (fun j => P 2 (7 * ((nx + 7) % 8) + j)) 0 7)) := by
  unfold f_X2a_popInto
  rw [h3, if_neg (by rw [n_0, n_eq (by omega) (by omega)]; omega), pv, show nI dn - 1 = nI (dn - 1) by rw [n_1, pk_sub (by omega)]]
  have k1 : (if (zs P 3 (fun _ => nI (dn - 1))) 4 0 ≤ 0 then some ((zs P 3 (fun _ => nI (dn - 1))) 0 0 - 1) else some ((zs P 3 (fun _ => nI (dn - 1))) 4 0 - 1)) = some (nI ((nx + 7) % 8)) := by
    show (if P 4 0 ≤ 0 then some (P 0 0 - 1) else some (P 4 0 - 1)) = _
    rw [h0, h4, n_0, n_1]
    by_cases c : nx = 0
    · rw [if_pos (by rw [n_le (by omega) (by omega)]; omega), c, pk_sub (by omega)]
    · rw [if_neg (by rw [n_le (by omega) (by omega)]; omega), pk_sub (by omega), show nx + 7 = (nx - 1) + 8 by omega, Nat.add_mod_right, Nat.mod_eq_of_lt (by omega)]
  have e := pop_loop_a (P := zs (zs P 3 (fun _ => nI (dn - 1))) 4 (fun _ => nI ((nx + 7) % 8))) (P1 := P1) (q := (nx + 7) % 8) (Nat.mod_lt _ (by omega)) rfl 7 0 100000 (by omega) (by omega)
  rw [zput_0, zput_0, zs_self, zs_self] at e
  have e : L_X2a_popInto_46 (zs (zs P 3 (fun _ => nI (dn - 1))) 4 (fun _ => nI ((nx + 7) % 8))) 100000 0 P1 = _ := e
  rw [pb1 k1, pv, pb2 e]
  rfl
theorem push_loop_b {P P1 : zMm} {nx : Nat} (hnx : nx < 2) (h4 : P 4 0 = nI nx) : ∀ m k n, k + m = 7 → m < n → L_X2b_push_2 P1 n (nI k) (zs (zs P 1 (zput (P 1) (P1 0) (7 * nx) k)) 2 (zput (P 2) (P1 1) (7 * nx) k)) = some (nI 7, zs (zs P 1 (zput (P 1) (P1 0) (7 * nx) 7)) 2 (zput (P 2) (P1 1) (7 * nx) 7)) := by
  intro m
  induction m with
  | zero =>
    intro k n hk hn
    obtain ⟨n, rfl⟩ : ∃ n', n = n' + 1 := ⟨n - 1, by omega⟩
    rw [L_X2b_push_2, if_pos (by rw [n_7, n_le (by omega) (by omega)]; omega), show k = 7 by omega]
  | succ m ih =>
    intro k n hk hn
    obtain ⟨n, rfl⟩ : ∃ n', n = n' + 1 := ⟨n - 1, by omega⟩
    have e4 : ∀ A B, (zs (zs P 1 A) 2 B) 4 0 = nI nx := fun A B => h4
    have e1 : ∀ A B, (zs (zs P 1 A) 2 B) 1 = A := fun A B => rfl
    have e2 : ∀ A B, (zs (zs P 1 A) 2 B) 2 = B := fun A B => rfl
    have ec : ∀ A B C, zs (zs (zs P 1 A) 2 B) 1 C = zs (zs P 1 C) 2 B := fun A B C => by rw [zs_comm _ _ _ (by decide : (2 : Nat) ≠ 1), zs_zs]
    rw [L_X2b_push_2, if_neg (by rw [n_7, n_le (by omega) (by omega)]; omega), pl_k rfl (by omega) (by omega), e4, pw_k (k := 7 * nx + k) (by rw [n_7, n_mul, n_add, Nat.mul_comm]) (by omega) (by omega), e1, ec, zput_s, pl_k rfl (by omega) (by omega), e4, pw_k (k := 7 * nx + k) (by rw [n_7, n_mul, n_add, Nat.mul_comm]) (by omega) (by omega), e2, zs_zs, zput_s, pv, n_1, n_add]
    exact ih (k + 1) n (by omega) (by omega)
theorem push_b {P P1 : zMm} {nx dn : Nat} (hnx : nx < 2) (hdn : dn ≤ 2) (h0 : P 0 0 = nI 2) (h3 : P 3 0 = nI dn) (h4 : P 4 0 = nI nx) : f_X2b_push P P1 = some (zs (zs (zs (zs P 1 (zput (P 1) (P1 0) (7 * nx) 7)) 2 (zput (P 2) (P1 1) (7 * nx) 7)) 4 (fun _ => nI ((nx + 1) % 2))) 3 (fun _ => nI (min (dn + 1) 2))) := by
  have e := push_loop_b (P := P) (P1 := P1) hnx h4 7 0 100000 (by omega) (by omega)
  rw [zput_0, zput_0, zs_self, zs_self] at e
  have e : L_X2b_push_2 P1 100000 0 P = _ := e
  unfold f_X2b_push
  rw [pb2 e]
  have k1 : (if (zs (zs P 1 (zput (P 1) (P1 0) (7 * nx) 7)) 2 (zput (P 2) (P1 1) (7 * nx) 7)) 0 0 ≤ ((zs (zs P 1 (zput (P 1) (P1 0) (7 * nx) 7)) 2 (zput (P 2) (P1 1) (7 * nx) 7)) 4 0) + 1 then some (0 : Int32) else some (((zs (zs P 1 (zput (P 1) (P1 0) (7 * nx) 7)) 2 (zput (P 2) (P1 1) (7 * nx) 7)) 4 0) + 1)) = some (nI ((nx + 1) % 2)) := by
    show (if P 0 0 ≤ P 4 0 + 1 then some (0 : Int32) else some (P 4 0 + 1)) = _
    rw [h0, h4, n_1, n_add]
    by_cases c : nx + 1 = 2
    · rw [if_pos (by rw [n_le (by omega) (by omega)]; omega), c]
      rfl
    · rw [if_neg (by rw [n_le (by omega) (by omega)]; omega), Nat.mod_eq_of_lt (by omega)]
  rw [pb1 k1, pv, pv]
  have k2 : ∀ F, (if (zs (zs (zs P 1 (zput (P 1) (P1 0) (7 * nx) 7)) 2 (zput (P 2) (P1 1) (7 * nx) 7)) 4 F) 0 0 < ((zs (zs (zs P 1 (zput (P 1) (P1 0) (7 * nx) 7)) 2 (zput (P 2) (P1 1) (7 * nx) 7)) 4 F) 3 0) + 1 then (zs (zs (zs P 1 (zput (P 1) (P1 0) (7 * nx) 7)) 2 (zput (P 2) (P1 1) (7 * nx) 7)) 4 F) 0 0 else ((zs (zs (zs P 1 (zput (P 1) (P1 0) (7 * nx) 7)) 2 (zput (P 2) (P1 1) (7 * nx) 7)) 4 F) 3 0) + 1) = nI (min (dn + 1) 2) := by
    intro F
    show (if P 0 0 < P 3 0 + 1 then P 0 0 else P 3 0 + 1) = _
    rw [h0, h3, n_1, n_add]
    by_cases c : 2 < dn + 1
    · rw [if_pos ((n_lt (by omega) (by omega)).mpr c), Nat.min_eq_right (by omega)]
    · rw [if_neg (fun q => c ((n_lt (by omega) (by omega)).mp q)), Nat.min_eq_left (by omega)]
  rw [k2, pv]
theorem pop_loop_b {P P1 : zMm} {q : Nat} (hq : q < 2) (h4 : P 4 0 = nI q) : ∀ m k n, k + m = 7 → m < n → L_X2b_popInto_46 P n (nI k) (zs (zs P1 0 (zput (P1 0) (fun j => P 1 (7 * q + j)) 0 k)) 1 (zput (P1 1) (fun j => P 2 (7 * q + j)) 0 k)) = some (nI 7, zs (zs P1 0 (zput (P1 0) (fun j => P 1 (7 * q + j)) 0 7)) 1 (zput (P1 1) (fun j => P 2 (7 * q + j)) 0 7)) := by
  intro m
  induction m with
  | zero =>
    intro k n hk hn
    obtain ⟨n, rfl⟩ : ∃ n', n = n' + 1 := ⟨n - 1, by omega⟩
    rw [L_X2b_popInto_46, if_pos (by rw [n_7, n_le (by omega) (by omega)]; omega), show k = 7 by omega]
  | succ m ih =>
    intro k n hk hn
    obtain ⟨n, rfl⟩ : ∃ n', n = n' + 1 := ⟨n - 1, by omega⟩
    have e1 : ∀ A B, (zs (zs P1 0 A) 1 B) 0 = A := fun A B => rfl
    have e2 : ∀ A B, (zs (zs P1 0 A) 1 B) 1 = B := fun A B => rfl
    have ec : ∀ A B C, zs (zs (zs P1 0 A) 1 B) 0 C = zs (zs P1 0 C) 1 B := fun A B C => by rw [zs_comm _ _ _ (by decide : (1 : Nat) ≠ 0), zs_zs]
    have s1 := zput_s (P1 0) (fun j => P 1 (7 * q + j)) 0 k
    have s2 := zput_s (P1 1) (fun j => P 2 (7 * q + j)) 0 k
    rw [Nat.zero_add] at s1 s2
    rw [L_X2b_popInto_46, if_neg (by rw [n_7, n_le (by omega) (by omega)]; omega), h4, pl_k (k := 7 * q + k) (by rw [n_7, n_mul, n_add, Nat.mul_comm]) (by omega) (by omega), pw_k rfl (by omega) (by omega), e1, ec, s1, pl_k (k := 7 * q + k) (by rw [n_7, n_mul, n_add, Nat.mul_comm]) (by omega) (by omega), pw_k rfl (by omega) (by omega), e2, zs_zs, s2, pv, n_1, n_add]
    exact ih (k + 1) n (by omega) (by omega)
theorem pop_b {P P1 : zMm} {nx dn : Nat} (hnx : nx < 2) (hdn : dn ≤ 2) (hd0 : 0 < dn) (h0 : P 0 0 = nI 2) (h3 : P 3 0 = nI dn) (h4 : P 4 0 = nI nx) : f_X2b_popInto P P1 = some (zs (zs P 3 (fun _ => nI (dn - 1))) 4 (fun _ => nI ((nx + 1) % 2)), zs (zs P1 0 (zput (P1 0) (fun j => P 1 (7 * ((nx + 1) % 2) + j)) 0 7)) 1 (zput (P1 1) (fun j => P 2 (7 * ((nx + 1) % 2) + j)) 0 7)) := by
  unfold f_X2b_popInto
  rw [h3, if_neg (by rw [n_0, n_eq (by omega) (by omega)]; omega), pv, show nI dn - 1 = nI (dn - 1) by rw [n_1, pk_sub (by omega)]]
  have k1 : (if (zs P 3 (fun _ => nI (dn - 1))) 4 0 ≤ 0 then some ((zs P 3 (fun _ => nI (dn - 1))) 0 0 - 1) else some ((zs P 3 (fun _ => nI (dn - 1))) 4 0 - 1)) = some (nI ((nx + 1) % 2)) := by
    show (if P 4 0 ≤ 0 then some (P 0 0 - 1) else some (P 4 0 - 1)) = _
    rw [h0, h4, n_0, n_1]
    by_cases c : nx = 0
    · rw [if_pos (by rw [n_le (by omega) (by omega)]; omega), c, pk_sub (by omega)]
    · rw [if_neg (by rw [n_le (by omega) (by omega)]; omega), pk_sub (by omega), show nx + 1 = (nx - 1) + 2 by omega, Nat.add_mod_right, Nat.mod_eq_of_lt (by omega)]
  have e := pop_loop_b (P := zs (zs P 3 (fun _ => nI (dn - 1))) 4 (fun _ => nI ((nx + 1) % 2))) (P1 := P1) (q := (nx + 1) % 2) (Nat.mod_lt _ (by omega)) rfl 7 0 100000 (by omega) (by omega)
  rw [zput_0, zput_0, zs_self, zs_self] at e
  have e : L_X2b_popInto_46 (zs (zs P 3 (fun _ => nI (dn - 1))) 4 (fun _ => nI ((nx + 1) % 2))) 100000 0 P1 = _ := e
  rw [pb1 k1, pv, pb2 e]
  rfl
/-! the reference's slots -/
def zcp (f : Nat → Int32) (a b : Nat) : Nat → Int32 := zput f (fun k => f (14 * a + k)) (14 * b) 14
theorem cp_loop {M : zMm} {a b : Nat} (ha : a ≤ 10) (hb : b ≤ 10) (hab : a ≠ b) : ∀ m k n, k + m = 14 → m < n → L_X9_copies_2 (nI a) (nI b) n (nI k) (zs M 10 (zput (M 10) (fun k => M 10 (14 * a + k)) (14 * b) k)) = some (nI 14, zs M 10 (zcp (M 10) a b)) := by
  intro m
  induction m with
  | zero =>
    intro k n hk hn
    obtain ⟨n, rfl⟩ : ∃ n', n = n' + 1 := ⟨n - 1, by omega⟩
    rw [L_X9_copies_2, if_pos (by rw [n_14, n_le (by omega) (by omega)]; omega), show k = 14 by omega]
    rfl
  | succ m ih =>
    intro k n hk hn
    obtain ⟨n, rfl⟩ : ∃ n', n = n' + 1 := ⟨n - 1, by omega⟩
    rw [L_X9_copies_2, if_neg (by rw [n_14, n_le (by omega) (by omega)]; omega), pl_k (k := 14 * a + k) (by rw [n_14, n_mul, n_add]) (by omega) (by omega), pw_k (k := 14 * b + k) (by rw [n_14, n_mul, n_add]) (by omega) (by omega), zs_s, zput_out _ _ (by omega), zs_zs, zput_s (M 10) (fun k => M 10 (14 * a + k)), pv, n_1, n_add]
    exact ih (k + 1) n (by omega) (by omega)
theorem cpM {M : zMm} {a b : Nat} (ha : a ≤ 10) (hb : b ≤ 10) (hab : a ≠ b) : f_X9_copies M (nI a) (nI b) = some (zs M 10 (zcp (M 10) a b)) := by
  unfold f_X9_copies
  have e := cp_loop (M := M) ha hb hab 14 0 100000 (by omega) (by omega)
  rw [zput_0, zs_self] at e
  have e : L_X9_copies_2 (nI a) (nI b) 100000 0 M = _ := e
  rw [pb2 e]
def zsh (f : Nat → Int32) (k : Nat) : Nat → Int32 := fun i => if 42 ≤ i ∧ i < 14 * k then f (i + 14) else f i
theorem zsh_s (f : Nat → Int32) {k : Nat} (hk : 3 ≤ k) : zcp (zsh f k) (k + 1) k = zsh f (k + 1) := by
  funext i
  unfold zcp zput zsh
  by_cases c : 14 * k ≤ i ∧ i < 14 * k + 14
  · rw [if_pos c]
    show (if 42 ≤ 14 * (k + 1) + (i - 14 * k) ∧ 14 * (k + 1) + (i - 14 * k) < 14 * k then f (14 * (k + 1) + (i - 14 * k) + 14) else f (14 * (k + 1) + (i - 14 * k))) = (if 42 ≤ i ∧ i < 14 * (k + 1) then f (i + 14) else f i)
    rw [if_neg (by omega), if_pos (by omega)]
    congr 1
    omega
  · rw [if_neg c]
    by_cases c2 : 42 ≤ i ∧ i < 14 * k
    · rw [if_pos c2, if_pos (by omega)]
    · rw [if_neg c2, if_neg (by omega)]
theorem kn_loop {M : zMm} : ∀ m k n, k + m = 10 → m < n → 3 ≤ k → L_X9_known_11 n (nI k) (zs M 10 (zsh (M 10) k)) = some (nI 10, zs M 10 (zsh (M 10) 10)) := by
  intro m
  induction m with
  | zero =>
    intro k n hk hn h3
    obtain ⟨n, rfl⟩ : ∃ n', n = n' + 1 := ⟨n - 1, by omega⟩
    rw [L_X9_known_11, if_pos (by rw [n_10, n_le (by omega) (by omega)]; omega), show k = 10 by omega]
  | succ m ih =>
    intro k n hk hn h3
    obtain ⟨n, rfl⟩ : ∃ n', n = n' + 1 := ⟨n - 1, by omega⟩
    rw [L_X9_known_11, if_neg (by rw [n_10, n_le (by omega) (by omega)]; omega), n_1, n_add, pb1 (cpM (by omega) (by omega) (by omega)), zs_s, zs_zs, zsh_s _ h3, pv]
    exact ih (k + 1) n (by omega) (by omega) (by omega)
/-- what known() leaves in the slots, dn fittings being held -/
def zkn (f : Nat → Int32) (dn : Nat) : Nat → Int32 := if dn = 8 then zcp (zsh f 10) 0 10 else zcp f 0 (3 + dn)
theorem knM {M : zMm} {dn : Nat} (hd : dn ≤ 8) (h : M 12 0 = nI dn) : f_X9_known M = some (zs (zs M 10 (zkn (M 10) dn)) 12 (fun _ => nI (min (dn + 1) 8))) := by
  unfold f_X9_known
  rw [h]
  by_cases c : dn = 8
  · have e := kn_loop (M := M) 7 3 100000 (by omega) (by omega) (by omega)
    have e0 : zsh (M 10) 3 = M 10 := by funext i; unfold zsh; rw [if_neg (by omega)]
    rw [e0, zs_self] at e
    have e : L_X9_known_11 100000 3 M = _ := e
    have e12 : ∀ g, (zs M 10 g) 12 0 = nI 8 := fun g => by show M 12 0 = _; rw [h, c]
    rw [if_pos (by rw [c]; rfl), pb2 e, pv, e12, show nI 8 - 1 = nI 7 from rfl, pb1 rfl]
    have e12b : ∀ g, (zs (zs M 10 g) 12 (fun _ => nI 7)) 12 0 = nI 7 := fun g => rfl
    have e10 : ∀ g F, (zs (zs M 10 g) 12 F) 10 = g := fun g F => rfl
    rw [e12b, n_3, n_add, n_0, pb1 (cpM (by omega) (by omega) (by omega)), pv, e10]
    unfold zkn
    rw [if_pos c, c]
    have : ∀ A B F G, zs (zs (zs (zs M 10 A) 12 F) 10 B) 12 G = zs (zs M 10 B) 12 G := fun A B F G => by rw [zs_comm _ _ _ (by decide : (12 : Nat) ≠ 10), zs_zs, zs_zs]
    rw [this]
    rfl
  · have e12 : ∀ g, (zs M 10 g) 12 0 = nI dn := fun g => h
    rw [if_neg (by rw [n_8, n_eq (by omega) (by omega)]; exact c), pb1 rfl, h, n_3, n_add, n_0, pb1 (cpM (by omega) (by omega) (by omega)), pv, e12]
    unfold zkn
    rw [if_neg c, n_1, n_add, Nat.min_eq_left (by omega)]
theorem zkn_lo {f : Nat → Int32} {dn i : Nat} (h : i < 42) : zkn f dn i = f i := by
  unfold zkn zcp
  split
  · rw [zput_out _ _ (by omega)]
    unfold zsh
    rw [if_neg (by omega)]
  · rw [zput_out _ _ (by omega)]
theorem zkn_new {f : Nat → Int32} {dn k : Nat} (hd : dn ≤ 8) (hk : k < 14) : zkn f dn (14 * (3 + (min (dn + 1) 8 - 1)) + k) = f k := by
  unfold zkn zcp
  by_cases c : dn = 8
  · rw [if_pos c, c, show 14 * (3 + (min (8 + 1) 8 - 1)) = 14 * 10 by decide, zput_in _ _ hk]
    unfold zsh
    rw [if_neg (by omega)]
    congr 1
    omega
  · rw [if_neg c, Nat.min_eq_left (by omega), show 3 + (dn + 1 - 1) = 3 + dn by omega, zput_in _ _ hk]
    congr 1
    omega
theorem zkn_old {f : Nat → Int32} {dn d k : Nat} (hd : dn ≤ 8) (hdd : d < min (dn + 1) 8 - 1) (hk : k < 14) : zkn f dn (14 * (3 + d) + k) = f (14 * (3 + (d + (dn + 1 - min (dn + 1) 8))) + k) := by
  unfold zkn zcp
  by_cases c : dn = 8
  · subst c
    have e : min (8 + 1) 8 = 8 := rfl
    rw [e] at hdd ⊢
    rw [if_pos rfl, zput_out _ _ (by omega)]
    unfold zsh
    rw [if_pos (by omega)]
    congr 1
    omega
  · rw [Nat.min_eq_left (by omega)] at hdd ⊢
    rw [if_neg c, zput_out _ _ (by omega), show dn + 1 - (dn + 1) = 0 by omega]
    rfl
