/-! ===== the law's first sixteen bytes ===== -/
set_option maxRecDepth 100000 in
theorem sgL_0 {E : mx_Ev} {Q : Option mx_V → mx_H → Prop}
    (H : ∃ x, mx_pos x = 0 ∧ mx_va x ∧ mx_lo x = (11, 14) ∧ (mx_C0 E (mx_fn false) 999 101 [.inr x] (mx_nw sp_he x) (fun v1 h2 => v1 = none → (∃ y, mx_pos y = h2.1 ∧ mx_va y ∧ mx_lo y = (12, 94) ∧ (mx_C0 E (mx_fn false) 999 172 [.inr y] (mx_nw h2 y) (fun v3 h4 => v3 = none → (mx_T0 E (mx_fn false) 1000 586 6306 0 18 [(0, .inl (.float 2)), (1, .inr x), (2, .inr y), (3, .inl (.int 0))] [] h4 Q))))))) :
    mx_T0 E (mx_fn false) 1000 753 22667 0 0 [(0, .inl (.float 2))] [] sp_he Q := mx_wp_sound0 (cuts := [(18, [0, 1, 2, 3])]) mx_ok0 30 H
theorem sp_entry {E : mx_Ev} {Q : Option mx_V → mx_H → Prop} (H : mx_T0 E (mx_fn true) 1000 586 6306 0 18 [(0, .inl (.float 2)), (1, .inr (.inl 0)), (2, .inr (.inl 105)), (3, .inl (.int 0))] [] sp_h0 Q) :
    mx_T0 E (mx_fn false) 1000 753 22667 0 0 [(0, .inl (.float 2))] [] sp_he Q := by
  refine sgL_0 ⟨.inl 0, rfl, Or.inl (by decide), rfl, ?_⟩
  refine mx_ex_sound 3000 sp_x1_s ?_
  intro _
  refine ⟨.inl 105, sp_h1_n.symm, Or.inr (Or.inr (Or.inr (by decide))), rfl, ?_⟩
  refine mx_ex_sound 3000 sp_x2_s ?_
  intro _
  exact mx_T0.enter sp_h0_fi H
