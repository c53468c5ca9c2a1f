/-! ===== the first heap: bounds, by the kernel ===== -/
def sp_kd (k : Nat) : Bool := Nat.ble k 100 || (Nat.beq k 102 || Nat.beq k 103)
def sp_ok (a : mx_A) (i : Nat) : Bool := Nat.blt (mx_pos a) 167 && (Nat.blt i (mx_lo a).2 && (decide (mx_adr (mx_pos a) = a) && sp_kd (mx_lo a).1))
def sp_cut : mx_A → Nat → Bool
  | .inl n, i => (Nat.beq n 3 && Nat.ble 12 i) || ((Nat.beq n 85 && Nat.ble 40 i) || (Nat.beq n 92 && Nat.ble 200 i))
  | .inr _, _ => false
def sp_nm (h : mx_H) : mx_H := (h.1, fun a i => bif sp_ok a i then h.2.1 a i else 0, h.2.2.1, fun a i => bif sp_cut a i then none else h.2.2.2 a i)
theorem sp_nm_n (h : mx_H) : (sp_nm h).1 = h.1 := rfl
theorem sp_nm_l (h : mx_H) : (sp_nm h).2.2.1 = h.2.2.1 := rfl
theorem sp_nm_i (h : mx_H) (a : mx_A) (i : Nat) : (sp_nm h).2.1 a i = bif sp_ok a i then h.2.1 a i else 0 := rfl
theorem sp_nm_r (h : mx_H) (a : mx_A) (i : Nat) : (sp_nm h).2.2.2 a i = bif sp_cut a i then none else h.2.2.2 a i := rfl
noncomputable abbrev sp_hN : mx_H := sp_nm sp_h0
set_option maxRecDepth 1000000 in
theorem sp_okb : (List.range 167).all (fun n => !sp_kd (mx_lo (mx_adr n)).1 || (List.range (mx_lo (mx_adr n)).2).all (fun i => (decide ((sf_bd (mx_adr n) i).1 ≤ -2147483648) && decide (2147483647 ≤ (sf_bd (mx_adr n) i).2)) || (decide ((sf_bd (mx_adr n) i).1 ≤ (sp_h0.2.1 (mx_adr n) i).toInt) && decide ((sp_h0.2.1 (mx_adr n) i).toInt ≤ (sf_bd (mx_adr n) i).2)))) = true := by decide +kernel
set_option maxRecDepth 1000000 in
theorem sp_okr : ((List.range 12).all (fun i => (sp_h0.2.2.2 (.inl 3) i).isNone) && ((List.range 40).all (fun i => (sp_h0.2.2.2 (.inl 85) i).isNone) && (List.range 200).all (fun i => (sp_h0.2.2.2 (.inl 92) i).isNone))) = true := by decide +kernel
set_option maxRecDepth 1000000 in
theorem sp_N0 : sp_hN.2.2.2 (.inl 0) 3 = some (.inr (0, 0)) ∧ sp_hN.2.1 (.inl 0) 2 = 0 ∧ sp_hN.2.1 (.inl 60) 1 = 0 ∧ sp_hN.2.1 (.inl 84) 0 = 0 ∧ sp_hN.2.1 (.inl 84) 1 = 0 ∧ sp_hN.2.1 (.inl 105) 24 = 0 ∧ sp_hN.2.1 (.inl 105) 25 = 0 ∧ sp_hN.2.1 (.inl 105) 1 = 0 ∧ sp_hN.2.1 (.inl 105) 12 = 0 ∧ sp_hN.2.1 (.inr (0, 0)) 6 = 0 := by decide +kernel
theorem sp_hN_n : sp_hN.1 = sp_h0.1 := sp_nm_n sp_h0
theorem sp_hN_l : sp_hN.2.2.1 = sp_h0.2.2.1 := sp_nm_l sp_h0
theorem sp_hN_i (a : mx_A) (i : Nat) : sp_hN.2.1 a i = bif sp_ok a i then sp_h0.2.1 a i else 0 := sp_nm_i sp_h0 a i
theorem sp_hN_r (a : mx_A) (i : Nat) : sp_hN.2.2.2 a i = bif sp_cut a i then none else sp_h0.2.2.2 a i := sp_nm_r sp_h0 a i
