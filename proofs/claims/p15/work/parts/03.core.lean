def mx_nb (j : Nat) : Nat := if j = 0 then 13 else if j = 1 then 24 else if j = 2 then 38 else 49
def mx_pos : mx_A → Nat
  | .inl k => k
  | .inr (j, o) => if o < 9 then (if j = 0 then 4 + o else 158 + 9 * j + o) else if o = 20 then 99 + j else mx_nb j + (o - 30)
/-- a number of a cell as the machine makes it -/
def mx_va : mx_A → Prop
  | .inl k => k < 4 ∨ (35 ≤ k ∧ k < 38) ∨ (60 ≤ k ∧ k < 99) ∨ (105 ≤ k ∧ k < 167)
  | .inr (j, o) => o < 9 ∨ (o = 20 ∧ j < 6) ∨ (30 ≤ o ∧ o < 41 ∧ j < 4)
def mx_adr (n : Nat) : mx_A :=
  if n < 4 then .inl n else if n < 13 then .inr (0, n - 4) else if n < 24 then .inr (0, 30 + (n - 13)) else if n < 35 then .inr (1, 30 + (n - 24)) else if n < 38 then .inl n
  else if n < 49 then .inr (2, 30 + (n - 38)) else if n < 60 then .inr (3, 30 + (n - 49)) else if n < 99 then .inl n else if n < 105 then .inr (n - 99, 20) else if n < 167 then .inl n
  else .inr ((n - 158) / 9, (n - 158) % 9)
theorem mx_pos_s (j : Nat) {o : Nat} (h : o < 9) : mx_pos (.inr (j, o)) = if j = 0 then 4 + o else 158 + 9 * j + o := if_pos h
theorem mx_pos_r (j : Nat) : mx_pos (.inr (j, 20)) = 99 + j := rfl
theorem mx_pos_n (j : Nat) {o : Nat} (h : 30 ≤ o) : mx_pos (.inr (j, o)) = mx_nb j + (o - 30) := by
  show (if o < 9 then _ else if o = 20 then _ else _) = _
  rw [if_neg (by omega), if_neg (by omega)]
theorem mx_nb0 : mx_nb 0 = 13 := rfl
theorem mx_nb1 : mx_nb 1 = 24 := rfl
theorem mx_nb2 : mx_nb 2 = 38 := rfl
theorem mx_nb3 : mx_nb 3 = 49 := rfl
theorem mx_adr_pos {a : mx_A} (h : mx_va a) : mx_adr (mx_pos a) = a := by
  rcases a with k | ⟨j, o⟩
  · have h : k < 4 ∨ (35 ≤ k ∧ k < 38) ∨ (60 ≤ k ∧ k < 99) ∨ (105 ≤ k ∧ k < 167) := h
    show mx_adr k = _
    unfold mx_adr
    split; · rfl
    split; · (exfalso; omega)
    split; · (exfalso; omega)
    split; · (exfalso; omega)
    split; · rfl
    split; · (exfalso; omega)
    split; · (exfalso; omega)
    split; · rfl
    split; · (exfalso; omega)
    split; · rfl
    exfalso; omega
  · have h : o < 9 ∨ (o = 20 ∧ j < 6) ∨ (30 ≤ o ∧ o < 41 ∧ j < 4) := h
    rcases h with h | ⟨rfl, h⟩ | ⟨h1, h2, h3⟩
    · rw [mx_pos_s j h]
      by_cases hj : j = 0
      · subst hj
        rw [if_pos rfl]
        unfold mx_adr
        rw [if_neg (by omega), if_pos (by omega), show 4 + o - 4 = o by omega]
      · rw [if_neg hj]
        unfold mx_adr
        rw [if_neg (by omega), if_neg (by omega), if_neg (by omega), if_neg (by omega), if_neg (by omega), if_neg (by omega), if_neg (by omega), if_neg (by omega), if_neg (by omega), if_neg (by omega), show (158 + 9 * j + o - 158) / 9 = j by omega, show (158 + 9 * j + o - 158) % 9 = o by omega]
    · rw [mx_pos_r]
      unfold mx_adr
      rw [if_neg (by omega), if_neg (by omega), if_neg (by omega), if_neg (by omega), if_neg (by omega), if_neg (by omega), if_neg (by omega), if_neg (by omega), if_pos (by omega), show 99 + j - 99 = j by omega]
    · rw [mx_pos_n j h1]
      have hj : j = 0 ∨ j = 1 ∨ j = 2 ∨ j = 3 := by omega
      rcases hj with rfl | rfl | rfl | rfl
      · rw [mx_nb0]
        unfold mx_adr
        rw [if_neg (by omega), if_neg (by omega), if_pos (by omega), show 30 + (13 + (o - 30) - 13) = o by omega]
      · rw [mx_nb1]
        unfold mx_adr
        rw [if_neg (by omega), if_neg (by omega), if_neg (by omega), if_pos (by omega), show 30 + (24 + (o - 30) - 24) = o by omega]
      · rw [mx_nb2]
        unfold mx_adr
        rw [if_neg (by omega), if_neg (by omega), if_neg (by omega), if_neg (by omega), if_neg (by omega), if_pos (by omega), show 30 + (38 + (o - 30) - 38) = o by omega]
      · rw [mx_nb3]
        unfold mx_adr
        rw [if_neg (by omega), if_neg (by omega), if_neg (by omega), if_neg (by omega), if_neg (by omega), if_neg (by omega), if_pos (by omega), show 30 + (49 + (o - 30) - 49) = o by omega]
def mx_k0 : Nat → Int32 := fun j => [-1, 0, 1, 0, 1, 4].getD j 0
