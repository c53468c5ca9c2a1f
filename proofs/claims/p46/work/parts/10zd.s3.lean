/-! ===== methods as functions (10ze.s3) ===== -/
set_option maxRecDepth 100000 in
theorem sl301_0 {E : mx_Ev} {n : Nat} {h : mx_H} {Q : Option mx_V → mx_H → Prop} {a1 : Int32} {a2 : Int32}
    (H : mx_M E n 300 [.inl (.int a1)] h (fun v1 h2 => ∀ x3, v1 = some (.inl (.int x3)) → (((x3 = 0) → (Q (some (.inl (.int (-1)))) h2)) ∧ (¬ (x3 = 0) → (((a2 = (-1)) → ((vp_in a1 6) → (Q (some (.inl (.int 1))) (mx_uI h2 (.inl 163) (Int32.toNatClampNeg a1) a2)))) ∧ (¬ (a2 = (-1)) → (mx_M E n 283 [.inr (.inl 105), .inl (.int a2)] h2 (fun v4 h5 => ∀ x6, v4 = some (.inl (.int x6)) → (((x6 ≠ 0) → ((vp_in a1 6) → (Q (some (.inl (.int 1))) (mx_uI h5 (.inl 163) (Int32.toNatClampNeg a1) a2)))) ∧ (¬ (x6 ≠ 0) → (Q (some (.inl (.int (-1)))) h5))))))))))) :
    mx_L E (n + 1) 301 0 [(0, .inr (.inl 105)), (1, .inl (.int a1)), (2, .inl (.int a2))] [] h Q := mx_wl_sound (cuts := []) mx_tbe301 20 H
set_option maxRecDepth 100000 in
theorem sl302_0 {E : mx_Ev} {n : Nat} {h : mx_H} {Q : Option mx_V → mx_H → Prop} {a1 : Int32} {a2 : Int32} {a3 : Int32}
    (H : mx_M E n 300 [.inl (.int a1)] h (fun v1 h2 => ∀ x3, v1 = some (.inl (.int x3)) → (((x3 = 0) → (Q (some (.inl (.int (-1)))) h2)) ∧ (¬ (x3 = 0) → (mx_M E n 173 [.inl (.int a2), .inl (.int 0), .inl (.int 4)] h2 (fun v4 h5 => ∀ x6, v4 = some (.inl (.int x6)) → (((x6 = 0) → (Q (some (.inl (.int (-1)))) h5)) ∧ (¬ (x6 = 0) → (((a3 ≤ 60) → (((0 ≤ a3) → ((vp_in a1 6) → ((vp_in a1 6) → (mx_L E n 302 54 [(0, .inr (.inl 105)), (1, .inl (.int a1)), (4, .inl (.int (60 * a1)))] [] (mx_uI (mx_uI h5 (.inl 163) (Int32.toNatClampNeg a1) ((-2) - a2)) (.inl 164) (Int32.toNatClampNeg a1) a3) Q)))) ∧ (¬ (0 ≤ a3) → (Q (some (.inl (.int (-14)))) h5)))) ∧ (¬ (a3 ≤ 60) → (Q (some (.inl (.int (-1)))) h5))))))))))) :
    mx_L E (n + 1) 302 0 [(0, .inr (.inl 105)), (1, .inl (.int a1)), (2, .inl (.int a2)), (3, .inl (.int a3))] [] h Q := mx_wl_sound (cuts := [(54, [0, 1, 4])]) mx_tbe302 50 H
set_option maxRecDepth 100000 in
theorem sl302_54 {E : mx_Ev} {n : Nat} {h : mx_H} {Q : Option mx_V → mx_H → Prop} {a1 : Int32} {a4 : Int32}
    (H : ((((60 * a1) + 60) ≤ a4) → (Q (some (.inl (.int 1))) h)) ∧ (¬ (((60 * a1) + 60) ≤ a4) → ((vp_in a4 360) → (mx_L E n 302 54 [(0, .inr (.inl 105)), (1, .inl (.int a1)), (4, .inl (.int (a4 + 1)))] [] (mx_uL h (.inl 165) (Int32.toNatClampNeg a4) 0) Q)))) :
    mx_L E (n + 1) 302 54 [(0, .inr (.inl 105)), (1, .inl (.int a1)), (4, .inl (.int a4))] [] h Q := mx_wl_sound (cuts := [(54, [0, 1, 4])]) mx_tbe302 50 H
