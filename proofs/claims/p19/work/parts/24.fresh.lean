/-! ===== the heap that the two constructors leave ===== -/
abbrev sp_he : mx_H := (0, fun _ _ => 0, fun _ _ => 0, fun _ _ => none)
noncomputable def sp_x1 : Option mx_H := mx_ex 3000 999 104 3349 101 0 [(0, .inr (.inl 0))] [] (mx_nw sp_he (.inl 0))
noncomputable def sp_h1 : mx_H := sp_x1.getD sp_he
noncomputable def sp_x2 : Option mx_H := mx_ex 3000 999 61 12904 172 0 [(0, .inr (.inl 105))] [] (mx_nw sp_h1 (.inl 105))
noncomputable def sp_h0 : mx_H := sp_x2.getD sp_he
theorem sp_gd {α : Type} {x : Option α} {d : α} (h : x.isSome = true) : x = some (x.getD d) := by
  cases x
  · cases h
  · rfl
/-- every constant reference holds -/
def sp_fic (h : mx_H) (n k : Nat) : Bool := match mx_fn true (mx_adr n) k with
  | none => true
  | some b => decide (h.2.2.2 (mx_adr n) k = some b)
/-- what a new object's calls read -/
def sp_FR (h : mx_H) : Prop :=
  (h.2.1 (.inl 0) 2 = 0 ∧ h.2.2.2 (.inl 0) 3 = some (.inr (0, 0)) ∧ h.2.1 (.inl 1) 1 = 0 ∧ h.2.1 (.inl 60) 1 = 0 ∧ h.2.1 (.inl 60) 5 = 0 ∧ h.2.1 (.inl 68) 0 = 0) ∧
  (h.2.1 (.inl 71) 0 = 0 ∧ h.2.1 (.inl 71) 2 = 0 ∧ h.2.1 (.inl 71) 7 = 0 ∧ (∀ j, j < 4 → h.2.1 (.inl 72) j = -1) ∧ (∀ j, j < 4 → h.2.1 (.inl 73) j = -1) ∧ h.2.1 (.inl 80) 0 = 0 ∧ h.2.1 (.inl 84) 0 = 0 ∧ h.2.1 (.inl 84) 1 = 0 ∧ h.2.1 (.inl 90) 0 = 0 ∧ h.2.1 (.inl 90) 3 = 0 ∧ (∀ j, j < 6 → h.2.1 (.inl 95) j = -2))
def sp_FM (h : mx_H) : Prop :=
  (h.2.1 (.inl 105) 1 = 0 ∧ h.2.1 (.inl 105) 12 = 0 ∧ h.2.1 (.inl 105) 16 = 0 ∧ h.2.1 (.inl 105) 24 = 0 ∧ h.2.1 (.inl 105) 25 = 0 ∧ h.2.1 (.inl 105) 51 = 0 ∧ h.2.1 (.inl 105) 56 = 0 ∧ h.2.1 (.inl 105) 65 = 0 ∧ h.2.1 (.inl 105) 71 = 0 ∧ h.2.1 (.inl 105) 74 = 0 ∧ h.2.1 (.inl 105) 79 = 0 ∧ h.2.1 (.inl 105) 83 = 0 ∧ h.2.1 (.inl 105) 88 = 0) ∧
  (∀ j, j < 4 → h.2.1 (.inl 149) j = -1) ∧ (∀ j, j < 4 → h.2.1 (.inl 150) j = -1) ∧ (∀ j, j < 6 → h.2.1 (.inl 163) j = -1)
/-! one check, so that the constructors run but once -/
set_option maxRecDepth 1000000 in
theorem sp_chk : sp_x1.isSome = true ∧ sp_h1.1 = 105 ∧ sp_x2.isSome = true ∧ sp_h0.1 = 167 ∧ (∀ n, n < 167 → ∀ k, k < 94 → sp_fic sp_h0 n k = true) ∧ sp_FR sp_h0 ∧ sp_FM sp_h0 := by
  unfold sp_FR sp_FM
  decide +kernel
theorem sp_x1_s : sp_x1 = some sp_h1 := sp_gd sp_chk.1
theorem sp_h1_n : sp_h1.1 = 105 := sp_chk.2.1
theorem sp_x2_s : sp_x2 = some sp_h0 := sp_gd sp_chk.2.2.1
theorem sp_h0_n : sp_h0.1 = 167 := sp_chk.2.2.2.1
theorem sp_fi_all : ∀ n, n < 167 → ∀ k, k < 94 → sp_fic sp_h0 n k = true := sp_chk.2.2.2.2.1
theorem sp_fr_len : ∀ n, n < 167 → (mx_frT n).length ≤ 94 := by decide +kernel
theorem sp_fn_lt {a : mx_A} {k : Nat} {b : mx_A} (ha : mx_wfa 167 a) (h : mx_fn true a k = some b) : k < 94 := by
  unfold mx_fn at h
  simp only at h
  cases h8 : mx_is98 a with
  | true =>
    rw [h8, cond_true] at h
    cases h6 : Nat.blt k 6 with
    | true => have := Nat.blt_eq.mp h6; omega
    | false => rw [h6, cond_false] at h; cases h
  | false =>
    rw [h8, cond_false] at h
    rcases a with n | ⟨j, o⟩
    · have hl := sp_fr_len n ha.2
      have h : (mx_frT n).getD k none = some b := h
      rcases Nat.lt_or_ge k 94 with q | q
      · exact q
      · rw [List.getD_eq_getElem?_getD, List.getElem?_eq_none (by omega)] at h
        cases h
    · rcases Nat.lt_or_ge k 94 with q | q
      · exact q
      · exfalso
        have h : (bif Nat.beq o 0 then (mx_frS.getD k none).map (fun x => (.inr (j, x) : mx_A)) else bif Nat.beq o 30 then (mx_frN.getD k none).map (fun x => (.inr (j, x) : mx_A)) else none) = some b := h
        have e1 : mx_frS.getD k none = none := by
          rw [List.getD_eq_getElem?_getD, List.getElem?_eq_none (by have : mx_frS.length = 13 := rfl; omega)]
          rfl
        have e2 : mx_frN.getD k none = none := by
          rw [List.getD_eq_getElem?_getD, List.getElem?_eq_none (by have : mx_frN.length = 12 := rfl; omega)]
          rfl
        rw [e1, e2] at h
        revert h
        cases Nat.beq o 0 <;> cases Nat.beq o 30 <;> (intro h; cases h)
theorem sp_h0_fi : mx_Fi sp_h0 := by
  intro a k b hb ha
  rw [sp_h0_n] at ha
  have hk := sp_fn_lt ha hb
  have h := sp_fi_all (mx_pos a) ha.2 k hk
  unfold sp_fic at h
  rw [mx_adr_pos ha.1, hb] at h
  exact of_decide_eq_true h
theorem sp_h0_FR : sp_FR sp_h0 := sp_chk.2.2.2.2.2.1
theorem sp_h0_FM : sp_FM sp_h0 := sp_chk.2.2.2.2.2.2
