/-! ===== the two that may be given null for a shape ===== -/
theorem sg164_null {E : mx_Ev} {d : Nat} {h : mx_H} {Q : Option mx_V → mx_H → Prop} {a1 : Int32}
    (H : ((0 : Int32) = 0 ∨ (0 : Int32) = 1) ∧ (Q (some (.inl (.int 0))) h)) :
    mx_T E (mx_fn true) (d + 1) 0 0 164 0 [(0, .inl .null), (1, .inl (.int a1))] [] h Q := mx_wp_sound (cuts := []) mx_ok164 15 H mx_tbe164
theorem sg165_null {E : mx_Ev} {d : Nat} {h : mx_H} {Q : Option mx_V → mx_H → Prop} {a1 : Int32} {a2 : Int32}
    (H : ((0 : Int32) = 0 ∨ (0 : Int32) = 1) ∧ (Q (some (.inl (.int 0))) h)) :
    mx_T E (mx_fn true) (d + 1) 0 0 165 0 [(0, .inl .null), (1, .inl (.int a1)), (2, .inl (.int a2))] [] h Q := mx_wp_sound (cuts := []) mx_ok165 20 H mx_tbe165
