/-! ===== 69d.alike.: stretches ===== -/
set_option maxRecDepth 100000 in
theorem sl119_0 {E : mx_Ev} {n : Nat} {h : mx_H} {Q : Option mx_V → mx_H → Prop} {a1 : Int32} {a2 : Int32} {a3 : Int32}
    (H : mx_M E n 166 [.inr (.inl 0), .inl (.int a1)] h (fun v1 h2 => (∀ j3, v1 = some (.inr (.inr (j3, 0))) → (mx_M E n 166 [.inr (.inl 0), .inl (.int a2)] h2 (fun v4 h5 => (∀ j6, v4 = some (.inr (.inr (j6, 0))) → (mx_M E n 157 [.inl (.int a3), .inl (.int 0), .inl (.int 1)] h5 (fun v7 h8 => ∀ x9, v7 = some (.inl (.int x9)) → (((x9 ≠ 0) → (mx_M E n 22 [.inr (.inr (0, 30)), .inr (.inr (j3, 0))] h8 (fun v10 h11 => v10 = none → (mx_M E n 22 [.inr (.inr (1, 30)), .inr (.inr (j6, 0))] h11 (fun v12 h13 => v12 = none → (mx_M E n 34 [.inr (.inr (0, 30)), .inr (.inr (1, 30))] h13 (fun v14 h15 => ∀ x16, v14 = some (.inl (.int x16)) → (((x16 ≠ 0) → (((a3 ≠ 0) → (mx_M E n 96 [.inr (.inl 35), .inr (.inr (j3, 0)), .inr (.inr (j6, 0))] h15 (fun v17 h18 => v17 = none → ((((h18.2.1 (.inl 35) 0) ≠ 0) → (Q (some (.inl (.int 0))) h18)) ∧ (¬ ((h18.2.1 (.inl 35) 0) ≠ 0) → (Q (some (.inl (.int 1))) h18)))))) ∧ (¬ (a3 ≠ 0) → (Q (some (.inl (.int 1))) h15)))) ∧ (¬ (x16 ≠ 0) → (Q (some (.inl (.int 0))) h15)))))))))) ∧ (¬ (x9 ≠ 0) → (Q (some (.inl (.int (-1)))) h8)))))) ∧ (v4 = some (.inl .null) → (Q (some (.inl (.int (-1)))) h5))))) ∧ (v1 = some (.inl .null) → (mx_M E n 166 [.inr (.inl 0), .inl (.int a2)] h2 (fun v19 h20 => (∀ j21, v19 = some (.inr (.inr (j21, 0))) → (Q (some (.inl (.int (-1)))) h20)) ∧ (v19 = some (.inl .null) → (Q (some (.inl (.int (-1)))) h20))))))) :
    mx_L E (n + 1) 119 0 [(0, .inr (.inl 0)), (1, .inl (.int a1)), (2, .inl (.int a2)), (3, .inl (.int a3))] [] h Q := mx_wl_sound (cuts := []) mx_tbe119 53 H
set_option maxRecDepth 100000 in
theorem sl236_0 {E : mx_Ev} {n : Nat} {h : mx_H} {Q : Option mx_V → mx_H → Prop} {a1 : Int32} {a2 : Int32}
    (H : mx_M E n 208 [.inr (.inl 105), .inl (.int a1)] h (fun v1 h2 => v1 = none → (mx_M E n 212 [.inr (.inl 105), .inl (.int a2), .inl (.int 1)] h2 (fun v3 h4 => v3 = none → ((vp_in (h4.2.1 (.inl 105) 37) 7) → (Q (some (.inl (.long (h4.2.2.1 (.inl 133) (Int32.toNatClampNeg (h4.2.1 (.inl 105) 37)))))) h4)))))) :
    mx_L E (n + 1) 236 0 [(0, .inr (.inl 105)), (1, .inl (.int a1)), (2, .inl (.int a2))] [] h Q := mx_wl_sound (cuts := []) mx_tbe236 14 H
set_option maxRecDepth 100000 in
theorem sl237_0 {E : mx_Ev} {n : Nat} {h : mx_H} {Q : Option mx_V → mx_H → Prop} {a1 : Int32} {a2 : Int32}
    (H : mx_M E n 195 [.inr (.inl 105), .inl (.int a1)] h (fun v1 h2 => ∀ x3, v1 = some (.inl (.int x3)) → (mx_M E n 195 [.inr (.inl 105), .inl (.int a2)] h2 (fun v4 h5 => ∀ x6, v4 = some (.inl (.int x6)) → (((x3 = x6) → (mx_L E n 237 17 [(0, .inr (.inl 105)), (1, .inl (.int a1)), (2, .inl (.int a2)), (3, .inl (.int 0))] [] h5 Q)) ∧ (¬ (x3 = x6) → (((0 : Int32) = 0 ∨ (0 : Int32) = 1) → (Q (some (.inl (.int 0))) h5)))))))) :
    mx_L E (n + 1) 237 0 [(0, .inr (.inl 105)), (1, .inl (.int a1)), (2, .inl (.int a2))] [] h Q := mx_wl_sound (cuts := [(17, [0, 1, 2, 3])]) mx_tbe237 39 H
set_option maxRecDepth 100000 in
theorem sl237_17 {E : mx_Ev} {n : Nat} {h : mx_H} {Q : Option mx_V → mx_H → Prop} {a1 : Int32} {a2 : Int32} {a3 : Int32}
    (H : ((7 ≤ a3) → (((1 : Int32) = 0 ∨ (1 : Int32) = 1) → (Q (some (.inl (.int 1))) h))) ∧ (¬ (7 ≤ a3) → (mx_M E n 236 [.inr (.inl 105), .inl (.int a1), .inl (.int a3)] h (fun v1 h2 => ∀ x3, v1 = some (.inl (.long x3)) → (mx_M E n 235 [.inr (.inl 105), .inl (.int a2)] h2 (fun v4 h5 => ∀ x6, v4 = some (.inl (.long x6)) → (mx_M E n 236 [.inr (.inl 105), .inl (.int a2), .inl (.int a3)] h5 (fun v7 h8 => ∀ x9, v7 = some (.inl (.long x9)) → (mx_M E n 235 [.inr (.inl 105), .inl (.int a1)] h8 (fun v10 h11 => ∀ x12, v10 = some (.inl (.long x12)) → ((((lg_cmp (x3 * x6) (x9 * x12)) = 0) → (mx_L E n 237 17 [(0, .inr (.inl 105)), (1, .inl (.int a1)), (2, .inl (.int a2)), (3, .inl (.int (a3 + 1)))] [] h11 Q)) ∧ (¬ ((lg_cmp (x3 * x6) (x9 * x12)) = 0) → (((0 : Int32) = 0 ∨ (0 : Int32) = 1) → (Q (some (.inl (.int 0))) h11)))))))))))))) :
    mx_L E (n + 1) 237 17 [(0, .inr (.inl 105)), (1, .inl (.int a1)), (2, .inl (.int a2)), (3, .inl (.int a3))] [] h Q := mx_wl_sound (cuts := [(17, [0, 1, 2, 3])]) mx_tbe237 39 H
set_option maxRecDepth 100000 in
theorem sl238_0 {E : mx_Ev} {n : Nat} {h : mx_H} {Q : Option mx_V → mx_H → Prop} {a1 : Int32} {a2 : Int32} {a3 : Int32}
    (H : mx_M E n 177 [.inr (.inl 105), .inl (.int a1)] h (fun v1 h2 => ∀ x3, v1 = some (.inl (.int x3)) → (((x3 = 0) → (Q (some (.inl (.int (-1)))) h2)) ∧ (¬ (x3 = 0) → (mx_M E n 177 [.inr (.inl 105), .inl (.int a2)] h2 (fun v4 h5 => ∀ x6, v4 = some (.inl (.int x6)) → (((x6 = 0) → (Q (some (.inl (.int (-1)))) h5)) ∧ (¬ (x6 = 0) → (mx_M E n 173 [.inl (.int a3), .inl (.int 0), .inl (.int 1)] h5 (fun v7 h8 => ∀ x9, v7 = some (.inl (.int x9)) → (((x9 ≠ 0) → (mx_M E n 237 [.inr (.inl 105), .inl (.int a1), .inl (.int a2)] h8 (fun v10 h11 => ∀ x12, v10 = some (.inl (.int x12)) → (((x12 ≠ 0) → (((a3 = 0) → (Q (some (.inl (.int 1))) h11)) ∧ (¬ (a3 = 0) → (mx_M E n 233 [.inr (.inl 105), .inl (.int a1), .inl (.int a2)] h11 (fun v13 h14 => ∀ x15, v13 = some (.inl (.int x15)) → (((x15 ≠ (-2)) → (Q (some (.inl (.int 0))) h14)) ∧ (¬ (x15 ≠ (-2)) → (Q (some (.inl (.int 1))) h14)))))))) ∧ (¬ (x12 ≠ 0) → (Q (some (.inl (.int 0))) h11)))))) ∧ (¬ (x9 ≠ 0) → (Q (some (.inl (.int (-1)))) h8))))))))))))) :
    mx_L E (n + 1) 238 0 [(0, .inr (.inl 105)), (1, .inl (.int a1)), (2, .inl (.int a2)), (3, .inl (.int a3))] [] h Q := mx_wl_sound (cuts := []) mx_tbe238 35 H
/-! ===== 69d.alike.: functions ===== -/
noncomputable def f119 (a1 : Int32) (a2 : Int32) (a3 : Int32) (h : mx_H) : Int32 × mx_H := x_box (x_opt (f166 a1 h) (fun j3 => (x_opt (f166 a2 h) (fun j6 => (if (f157 a3 0 1) ≠ 0 then (x_h (f22 0 j3 h) (fun h11 => (x_h (f22 1 j6 h11) (fun h13 => (x_let (f34 0 1 h13) (fun x16 h15 => (if x16 ≠ 0 then (if a3 ≠ 0 then (x_h (f96 j3 j6 h15) (fun h18 => (if (h18.2.1 (.inl 35) 0) ≠ 0 then ((0 : Int32), h18) else ((1 : Int32), h18)))) else ((1 : Int32), h15)) else ((0 : Int32), h15)))))))) else (((-1) : Int32), h))) (((-1) : Int32), h))) (x_opt (f166 a2 h) (fun j21 => (((-1) : Int32), h)) (((-1) : Int32), h)))
theorem f119_eq (a1 : Int32) (a2 : Int32) (a3 : Int32) (h : mx_H) : f119 a1 a2 a3 h = (x_opt (f166 a1 h) (fun j3 => (x_opt (f166 a2 h) (fun j6 => (if (f157 a3 0 1) ≠ 0 then (x_h (f22 0 j3 h) (fun h11 => (x_h (f22 1 j6 h11) (fun h13 => (x_let (f34 0 1 h13) (fun x16 h15 => (if x16 ≠ 0 then (if a3 ≠ 0 then (x_h (f96 j3 j6 h15) (fun h18 => (if (h18.2.1 (.inl 35) 0) ≠ 0 then ((0 : Int32), h18) else ((1 : Int32), h18)))) else ((1 : Int32), h15)) else ((0 : Int32), h15)))))))) else (((-1) : Int32), h))) (((-1) : Int32), h))) (x_opt (f166 a2 h) (fun j21 => (((-1) : Int32), h)) (((-1) : Int32), h))) := x_box_eq _
theorem x119 {E : mx_Ev} {n : Nat} {h : mx_H} {Q : Option mx_V → mx_H → Prop} {a1 : Int32} {a2 : Int32} {a3 : Int32} (hK : (xK_i Q) (f119 a1 a2 a3 h)) : mx_M E n 119 [.inr (.inl 0), .inl (.int a1), .inl (.int a2), .inl (.int a3)] h Q := by
  cases n with
  | zero => exact mx_L.zero
  | succ n => exact sl119_0 (x_use (x_eq (K := (xK_i Q)) (f119_eq a1 a2 a3 h) hK) (fun hK => (x166 (x_ov hK (fun j3 hK => (x166 (x_ov hK (fun j6 hK => (x157 (xh_i (x_ite hK (fun hK => (x22 (xh_n (x_hk hK (fun hK => (x22 (xh_n (x_hk hK (fun hK => (x34 (xh_i (x_letk hK (fun hK => (x_ite hK (fun hK => (x_ite hK (fun hK => (x96 (xh_n (x_hk hK (fun hK => (x_ite hK (fun hK => hK) (fun hK => hK))))))) (fun hK => hK))) (fun hK => hK))))))))))))))) (fun hK => hK))))) (fun hK => hK)))) (fun hK => (x166 (x_ov hK (fun j21 hK => hK) (fun hK => hK))))))))
noncomputable def f236 (a1 : Int32) (a2 : Int32) (h : mx_H) : Int64 × mx_H := x_box (x_h (f208 a1 h) (fun h2 => (x_h (f212 a2 1 h2) (fun h4 => ((h4.2.2.1 (.inl 133) (Int32.toNatClampNeg (h4.2.1 (.inl 105) 37)) : Int64), h4)))))
theorem f236_eq (a1 : Int32) (a2 : Int32) (h : mx_H) : f236 a1 a2 h = (x_h (f208 a1 h) (fun h2 => (x_h (f212 a2 1 h2) (fun h4 => ((h4.2.2.1 (.inl 133) (Int32.toNatClampNeg (h4.2.1 (.inl 105) 37)) : Int64), h4))))) := x_box_eq _
theorem x236 {E : mx_Ev} {n : Nat} {h : mx_H} {Q : Option mx_V → mx_H → Prop} {a1 : Int32} {a2 : Int32} (hK : (xK_l Q) (f236 a1 a2 h)) : mx_M E n 236 [.inr (.inl 105), .inl (.int a1), .inl (.int a2)] h Q := by
  cases n with
  | zero => exact mx_L.zero
  | succ n => exact sl236_0 (x_use (x_eq (K := (xK_l Q)) (f236_eq a1 a2 h) hK) (fun hK => (x208 (xh_n (x_hk hK (fun hK => (x212 (xh_n (x_hk hK (fun hK => (fun _ => hK)))))))))))
noncomputable def b237 : ((Int32 × Int32 × Int32 × mx_H)) → ((Int32 × Int32 × Int32 × mx_H)) ⊕ (Int32 × mx_H)
  | (a1, a2, a3, h) => (if 7 ≤ a3 then (Sum.inr ((1 : Int32), h)) else (x_let (f236 a1 a3 h) (fun x3 h2 => (x_let (f236 a2 a3 h2) (fun x9 h8 => (if (lg_cmp (x3 * (f235 a2 h2)) (x9 * (f235 a1 h8))) = 0 then (Sum.inl (a1, a2, (a3 + 1), h8)) else (Sum.inr ((0 : Int32), h8))))))))
noncomputable def g237_17 (a1 : Int32) (a2 : Int32) (a3 : Int32) (h : mx_H) : Int32 × mx_H := ml_wh b237 (a1, a2, a3, h)
theorem g237_17_go {k : Int32 × Int32 × Int32 × mx_H → Int32 × mx_H} {C : Prop} [Decidable C] {r : Int32 × mx_H} {p : Int64 × mx_H} {q : mx_H → Int64 × mx_H} {P : Int64 → mx_H → Int64 → mx_H → Prop} [∀ x g y f, Decidable (P x g y f)] {s : mx_H → Int32 × Int32 × Int32 × mx_H} {t : mx_H → Int32 × mx_H} : ml_go k (if C then Sum.inr r else x_let p (fun x3 h2 => x_let (q h2) (fun x9 h8 => if P x3 h2 x9 h8 then Sum.inl (s h8) else Sum.inr (t h8)))) = (if C then r else x_let p (fun x3 h2 => x_let (q h2) (fun x9 h8 => if P x3 h2 x9 h8 then k (s h8) else t h8))) := by
  simp only [ml_go_ite, ml_go_l, ml_go_r, ml_go_let]
theorem b237_eq (a1 : Int32) (a2 : Int32) (a3 : Int32) (h : mx_H) : b237 (a1, a2, a3, h) = (if 7 ≤ a3 then (Sum.inr ((1 : Int32), h)) else (x_let (f236 a1 a3 h) (fun x3 h2 => (x_let (f236 a2 a3 h2) (fun x9 h8 => (if (lg_cmp (x3 * (f235 a2 h2)) (x9 * (f235 a1 h8))) = 0 then (Sum.inl (a1, a2, (a3 + 1), h8)) else (Sum.inr ((0 : Int32), h8)))))))) := rfl
theorem g237_17_wh (a1 : Int32) (a2 : Int32) (a3 : Int32) (h : mx_H) : g237_17 a1 a2 a3 h = ml_wh b237 (a1, a2, a3, h) := rfl
theorem g237_17_eq (a1 : Int32) (a2 : Int32) (a3 : Int32) (h : mx_H) : g237_17 a1 a2 a3 h = (if 7 ≤ a3 then ((1 : Int32), h) else (x_let (f236 a1 a3 h) (fun x3 h2 => (x_let (f236 a2 a3 h2) (fun x9 h8 => (if (lg_cmp (x3 * (f235 a2 h2)) (x9 * (f235 a1 h8))) = 0 then (g237_17 a1 a2 (a3 + 1) h8) else ((0 : Int32), h8))))))) := by
  refine (g237_17_wh a1 a2 a3 h).trans ((ml_wh_eq b237 (a1, a2, a3, h)).trans ?_)
  rw [b237_eq]
  exact g237_17_go (k := ml_wh b237) (C := 7 ≤ a3) (r := ((1 : Int32), h)) (p := f236 a1 a3 h) (q := fun h2 => f236 a2 a3 h2) (P := fun x3 h2 x9 h8 => lg_cmp (x3 * (f235 a2 h2)) (x9 * (f235 a1 h8)) = 0) (s := fun h8 => (a1, a2, (a3 + 1), h8)) (t := fun h8 => ((0 : Int32), h8))
noncomputable def f237 (a1 : Int32) (a2 : Int32) (h : mx_H) : Int32 × mx_H := x_box (if (f195 a1 h) = (f195 a2 h) then (g237_17 a1 a2 0 h) else ((0 : Int32), h))
theorem f237_eq (a1 : Int32) (a2 : Int32) (h : mx_H) : f237 a1 a2 h = (if (f195 a1 h) = (f195 a2 h) then (g237_17 a1 a2 0 h) else ((0 : Int32), h)) := x_box_eq _
theorem xw237 {E : mx_Ev} {Q : Option mx_V → mx_H → Prop} : ∀ n : Nat, (∀ (a1 : Int32) (a2 : Int32) (a3 : Int32) (h : mx_H), (xK_i Q) (g237_17 a1 a2 a3 h) → mx_L E n 237 17 [(0, .inr (.inl 105)), (1, .inl (.int a1)), (2, .inl (.int a2)), (3, .inl (.int a3))] [] h Q)
  | 0 => fun _ _ _ _ _ => mx_L.zero
  | n + 1 => fun a1 a2 a3 h hK => sl237_17 (x_use (x_eq (K := (xK_i Q)) (g237_17_eq a1 a2 a3 h) hK) (fun hK => (x_ite hK (fun hK => (fun _ => hK)) (fun hK => (x236 (xh_l (x_letk hK (fun hK => (x235 (xh_l (x236 (xh_l (x_letk hK (fun hK => (x235 (xh_l (x_ite hK (fun hK => ((xw237 n) _ _ _ _ hK)) (fun hK => (fun _ => hK)))))))))))))))))))
theorem x237 {E : mx_Ev} {n : Nat} {h : mx_H} {Q : Option mx_V → mx_H → Prop} {a1 : Int32} {a2 : Int32} (hK : (xK_i Q) (f237 a1 a2 h)) : mx_M E n 237 [.inr (.inl 105), .inl (.int a1), .inl (.int a2)] h Q := by
  cases n with
  | zero => exact mx_L.zero
  | succ n => exact sl237_0 (x_use (x_eq (K := (xK_i Q)) (f237_eq a1 a2 h) hK) (fun hK => (x195 (xh_i (x195 (xh_i (x_ite hK (fun hK => ((xw237 n) _ _ _ _ hK)) (fun hK => (fun _ => hK)))))))))
noncomputable def f238 (a1 : Int32) (a2 : Int32) (a3 : Int32) (h : mx_H) : Int32 × mx_H := x_box (if (f177 a1 h) = 0 then (((-1) : Int32), h) else (if (f177 a2 h) = 0 then (((-1) : Int32), h) else (if (f173 a3 0 1) ≠ 0 then (x_let (f237 a1 a2 h) (fun x12 h11 => (if x12 ≠ 0 then (if a3 = 0 then ((1 : Int32), h11) else (x_let (f233 a1 a2 h11) (fun x15 h14 => (if x15 ≠ (-2) then ((0 : Int32), h14) else ((1 : Int32), h14))))) else ((0 : Int32), h11)))) else (((-1) : Int32), h))))
theorem f238_eq (a1 : Int32) (a2 : Int32) (a3 : Int32) (h : mx_H) : f238 a1 a2 a3 h = (if (f177 a1 h) = 0 then (((-1) : Int32), h) else (if (f177 a2 h) = 0 then (((-1) : Int32), h) else (if (f173 a3 0 1) ≠ 0 then (x_let (f237 a1 a2 h) (fun x12 h11 => (if x12 ≠ 0 then (if a3 = 0 then ((1 : Int32), h11) else (x_let (f233 a1 a2 h11) (fun x15 h14 => (if x15 ≠ (-2) then ((0 : Int32), h14) else ((1 : Int32), h14))))) else ((0 : Int32), h11)))) else (((-1) : Int32), h)))) := x_box_eq _
theorem x238 {E : mx_Ev} {n : Nat} {h : mx_H} {Q : Option mx_V → mx_H → Prop} {a1 : Int32} {a2 : Int32} {a3 : Int32} (hK : (xK_i Q) (f238 a1 a2 a3 h)) : mx_M E n 238 [.inr (.inl 105), .inl (.int a1), .inl (.int a2), .inl (.int a3)] h Q := by
  cases n with
  | zero => exact mx_L.zero
  | succ n => exact sl238_0 (x_use (x_eq (K := (xK_i Q)) (f238_eq a1 a2 a3 h) hK) (fun hK => (x177 (xh_i (x_ite hK (fun hK => hK) (fun hK => (x177 (xh_i (x_ite hK (fun hK => hK) (fun hK => (x173 (xh_i (x_ite hK (fun hK => (x237 (xh_i (x_letk hK (fun hK => (x_ite hK (fun hK => (x_ite hK (fun hK => hK) (fun hK => (x233 (xh_i (x_letk hK (fun hK => (x_ite hK (fun hK => hK) (fun hK => hK))))))))) (fun hK => hK))))))) (fun hK => hK))))))))))))))
/-! ===== 69e.tune.: stretches ===== -/
set_option maxRecDepth 100000 in
theorem sl243_0 {E : mx_Ev} {n : Nat} {h : mx_H} {Q : Option mx_V → mx_H → Prop} 
    (H : mx_M E n 208 [.inr (.inl 105), .inl (.int (h.2.1 (.inl 105) 52))] h (fun v1 h2 => v1 = none → (mx_L E n 243 10 [(0, .inr (.inl 105)), (1, .inl (.int 0))] [] h2 Q))) :
    mx_L E (n + 1) 243 0 [(0, .inr (.inl 105))] [] h Q := mx_wl_sound (cuts := [(10, [0, 1]), (55, [0, 1, 2, 3])]) mx_tbe243 73 H
set_option maxRecDepth 100000 in
theorem sl243_10 {E : mx_Ev} {n : Nat} {h : mx_H} {Q : Option mx_V → mx_H → Prop} {a1 : Int32}
    (H : (((h.2.1 (.inl 105) 51) ≤ a1) → (mx_L E n 243 55 [(0, .inr (.inl 105)), (1, .inl (.int 0)), (2, .inl (.int 0)), (3, .inl (.int 0))] [] h Q)) ∧ (¬ ((h.2.1 (.inl 105) 51) ≤ a1) → ((vp_in a1 8) → ((((h.2.1 (.inl 146) (Int32.toNatClampNeg a1)) ≤ 0) → (mx_L E n 243 10 [(0, .inr (.inl 105)), (1, .inl (.int (a1 + 1)))] [] h Q)) ∧ (¬ ((h.2.1 (.inl 146) (Int32.toNatClampNeg a1)) ≤ 0) → ((vp_in a1 8) → (mx_M E n 241 [.inr (.inl 105), .inl (.int a1), .inl (.int (h.2.1 (.inl 146) (Int32.toNatClampNeg a1)))] h (fun v1 h2 => ∀ x3, v1 = some (.inl (.int x3)) → (((x3 ≠ 0) → (mx_L E n 243 10 [(0, .inr (.inl 105)), (1, .inl (.int (a1 + 1)))] [] h2 Q)) ∧ (¬ (x3 ≠ 0) → (Q (some (.inl (.int (-1)))) h2))))))))))) :
    mx_L E (n + 1) 243 10 [(0, .inr (.inl 105)), (1, .inl (.int a1))] [] h Q := mx_wl_sound (cuts := [(10, [0, 1]), (55, [0, 1, 2, 3])]) mx_tbe243 73 H
set_option maxRecDepth 100000 in
theorem sl243_55 {E : mx_Ev} {n : Nat} {h : mx_H} {Q : Option mx_V → mx_H → Prop} {a1 : Int32} {a2 : Int32} {a3 : Int32}
    (H : (((h.2.1 (.inl 105) 56) ≤ a3) → (Q (some (.inl (.int a1))) h)) ∧ (¬ ((h.2.1 (.inl 105) 56) ≤ a3) → (((a3 = 0) → (mx_M E n 218 [.inr (.inl 105)] h (fun v1 h2 => v1 = none → ((vp_in a3 6) → ((vp_in a3 6) → (mx_M E n 219 [.inr (.inl 105), .inl (.int (h2.2.1 (.inl 143) (Int32.toNatClampNeg a3))), .inl (.int (h2.2.1 (.inl 144) (Int32.toNatClampNeg a3)))] h2 (fun v3 h4 => ∀ x5, v3 = some (.inl (.int x5)) → ((vp_in a3 6) → (mx_M E n 176 [.inl (.int (x5 - (h4.2.1 (.inl 145) (Int32.toNatClampNeg a3))))] h4 (fun v6 h7 => ∀ x8, v6 = some (.inl (.int x8)) → (mx_L E n 243 55 [(0, .inr (.inl 105)), (1, .inl (.int (a1 + x8))), (2, .inl (.int (h2.2.1 (.inl 144) (Int32.toNatClampNeg a3)))), (3, .inl (.int (a3 + 1)))] [] h7 Q))))))))))) ∧ (¬ (a3 = 0) → ((vp_in a3 6) → ((((h.2.1 (.inl 144) (Int32.toNatClampNeg a3)) = a2) → ((vp_in a3 6) → ((vp_in a3 6) → (mx_M E n 219 [.inr (.inl 105), .inl (.int (h.2.1 (.inl 143) (Int32.toNatClampNeg a3))), .inl (.int (h.2.1 (.inl 144) (Int32.toNatClampNeg a3)))] h (fun v9 h10 => ∀ x11, v9 = some (.inl (.int x11)) → ((vp_in a3 6) → (mx_M E n 176 [.inl (.int (x11 - (h10.2.1 (.inl 145) (Int32.toNatClampNeg a3))))] h10 (fun v12 h13 => ∀ x14, v12 = some (.inl (.int x14)) → (mx_L E n 243 55 [(0, .inr (.inl 105)), (1, .inl (.int (a1 + x14))), (2, .inl (.int (h.2.1 (.inl 144) (Int32.toNatClampNeg a3)))), (3, .inl (.int (a3 + 1)))] [] h13 Q))))))))) ∧ (¬ ((h.2.1 (.inl 144) (Int32.toNatClampNeg a3)) = a2) → (mx_M E n 218 [.inr (.inl 105)] h (fun v15 h16 => v15 = none → ((vp_in a3 6) → ((vp_in a3 6) → (mx_M E n 219 [.inr (.inl 105), .inl (.int (h16.2.1 (.inl 143) (Int32.toNatClampNeg a3))), .inl (.int (h16.2.1 (.inl 144) (Int32.toNatClampNeg a3)))] h16 (fun v17 h18 => ∀ x19, v17 = some (.inl (.int x19)) → ((vp_in a3 6) → (mx_M E n 176 [.inl (.int (x19 - (h18.2.1 (.inl 145) (Int32.toNatClampNeg a3))))] h18 (fun v20 h21 => ∀ x22, v20 = some (.inl (.int x22)) → (mx_L E n 243 55 [(0, .inr (.inl 105)), (1, .inl (.int (a1 + x22))), (2, .inl (.int (h16.2.1 (.inl 144) (Int32.toNatClampNeg a3)))), (3, .inl (.int (a3 + 1)))] [] h21 Q))))))))))))))))) :
    mx_L E (n + 1) 243 55 [(0, .inr (.inl 105)), (1, .inl (.int a1)), (2, .inl (.int a2)), (3, .inl (.int a3))] [] h Q := mx_wl_sound (cuts := [(10, [0, 1]), (55, [0, 1, 2, 3])]) mx_tbe243 73 H
set_option maxRecDepth 100000 in
theorem sl245_0 {E : mx_Ev} {n : Nat} {h : mx_H} {Q : Option mx_V → mx_H → Prop} {a1 : Int32} {a2 : Int32}
    (H : ((a1 ≠ (h.2.1 (.inl 105) 51)) → (mx_L E n 245 114 [(0, .inr (.inl 105)), (1, .inl (.int a1)), (2, .inl (.int a2)), (3, .inl (.int 0))] [] h Q)) ∧ (¬ (a1 ≠ (h.2.1 (.inl 105) 51)) → (mx_M E n 243 [.inr (.inl 105)] h (fun v1 h2 => ∀ x3, v1 = some (.inl (.int x3)) → (((0 ≤ x3) → ((((h2.2.1 (.inl 105) 63) < 0) → (mx_L E n 245 49 [(0, .inr (.inl 105)), (2, .inl (.int a2)), (3, .inl (.int x3))] [] h2 Q)) ∧ (¬ ((h2.2.1 (.inl 105) 63) < 0) → (((x3 < (h2.2.1 (.inl 105) 63)) → (mx_L E n 245 49 [(0, .inr (.inl 105)), (2, .inl (.int a2)), (3, .inl (.int x3))] [] h2 Q)) ∧ (¬ (x3 < (h2.2.1 (.inl 105) 63)) → (((x3 ≠ (h2.2.1 (.inl 105) 63)) → (mx_L E n 245 59 [(0, .inr (.inl 105)), (2, .inl (.int a2)), (3, .inl (.int x3))] [] h2 Q)) ∧ (¬ (x3 ≠ (h2.2.1 (.inl 105) 63)) → ((((h2.2.1 (.inl 105) 64) ≤ a2) → (mx_L E n 245 59 [(0, .inr (.inl 105)), (2, .inl (.int a2)), (3, .inl (.int x3))] [] h2 Q)) ∧ (¬ ((h2.2.1 (.inl 105) 64) ≤ a2) → (mx_L E n 245 49 [(0, .inr (.inl 105)), (2, .inl (.int a2)), (3, .inl (.int x3))] [] h2 Q)))))))))) ∧ (¬ (0 ≤ x3) → (Q none h2))))))) :
    mx_L E (n + 1) 245 0 [(0, .inr (.inl 105)), (1, .inl (.int a1)), (2, .inl (.int a2))] [] h Q := mx_wl_sound (cuts := [(49, [0, 2, 3]), (59, [0, 2, 3]), (98, [0, 2]), (114, [0, 1, 2, 3]), (154, [0, 1])]) mx_tbe245 93 H
set_option maxRecDepth 100000 in
theorem sl245_49 {E : mx_Ev} {n : Nat} {h : mx_H} {Q : Option mx_V → mx_H → Prop} {a2 : Int32} {a3 : Int32}
    (H : mx_L E n 245 59 [(0, .inr (.inl 105)), (2, .inl (.int a2)), (3, .inl (.int a3))] [] (mx_uI (mx_uI h (.inl 105) 63 a3) (.inl 105) 64 a2) Q) :
    mx_L E (n + 1) 245 49 [(0, .inr (.inl 105)), (2, .inl (.int a2)), (3, .inl (.int a3))] [] h Q := mx_wl_sound (cuts := [(49, [0, 2, 3]), (59, [0, 2, 3]), (98, [0, 2]), (114, [0, 1, 2, 3]), (154, [0, 1])]) mx_tbe245 93 H
set_option maxRecDepth 100000 in
theorem sl245_59 {E : mx_Ev} {n : Nat} {h : mx_H} {Q : Option mx_V → mx_H → Prop} {a2 : Int32} {a3 : Int32}
    (H : ((0 < a3) → (Q none h)) ∧ (¬ (0 < a3) → ((((h.2.1 (.inl 105) 61) < 0) → (mx_L E n 245 98 [(0, .inr (.inl 105)), (2, .inl (.int a2))] [] h Q)) ∧ (¬ ((h.2.1 (.inl 105) 61) < 0) → ((((h.2.1 (.inl 105) 61) < a2) → (Q none h)) ∧ (¬ ((h.2.1 (.inl 105) 61) < a2) → (((a2 ≠ (h.2.1 (.inl 105) 61)) → (mx_L E n 245 98 [(0, .inr (.inl 105)), (2, .inl (.int a2))] [] h Q)) ∧ (¬ (a2 ≠ (h.2.1 (.inl 105) 61)) → (mx_M E n 244 [.inr (.inl 105)] h (fun v1 h2 => ∀ x3, v1 = some (.inl (.int x3)) → (((x3 < (h2.2.1 (.inl 105) 62)) → (mx_L E n 245 98 [(0, .inr (.inl 105)), (2, .inl (.int a2))] [] h2 Q)) ∧ (¬ (x3 < (h2.2.1 (.inl 105) 62)) → (Q none h2))))))))))))) :
    mx_L E (n + 1) 245 59 [(0, .inr (.inl 105)), (2, .inl (.int a2)), (3, .inl (.int a3))] [] h Q := mx_wl_sound (cuts := [(49, [0, 2, 3]), (59, [0, 2, 3]), (98, [0, 2]), (114, [0, 1, 2, 3]), (154, [0, 1])]) mx_tbe245 93 H
set_option maxRecDepth 100000 in
theorem sl245_114 {E : mx_Ev} {n : Nat} {h : mx_H} {Q : Option mx_V → mx_H → Prop} {a1 : Int32} {a2 : Int32} {a3 : Int32}
    (H : (vp_in a1 8) → ((((h.2.1 (.inl 142) (Int32.toNatClampNeg a1)) < a3) → (mx_L E n 245 154 [(0, .inr (.inl 105)), (1, .inl (.int a1))] [] h Q)) ∧ (¬ ((h.2.1 (.inl 142) (Int32.toNatClampNeg a1)) < a3) → (((4 < (a2 + a3)) → (mx_L E n 245 154 [(0, .inr (.inl 105)), (1, .inl (.int a1))] [] h Q)) ∧ (¬ (4 < (a2 + a3)) → ((vp_in a1 8) → (mx_M E n 245 [.inr (.inl 105), .inl (.int (a1 + 1)), .inl (.int (a2 + a3))] (mx_uI h (.inl 146) (Int32.toNatClampNeg a1) a3) (fun v1 h2 => v1 = none → (mx_L E n 245 114 [(0, .inr (.inl 105)), (1, .inl (.int a1)), (2, .inl (.int a2)), (3, .inl (.int (a3 + 1)))] [] h2 Q))))))))) :
    mx_L E (n + 1) 245 114 [(0, .inr (.inl 105)), (1, .inl (.int a1)), (2, .inl (.int a2)), (3, .inl (.int a3))] [] h Q := mx_wl_sound (cuts := [(49, [0, 2, 3]), (59, [0, 2, 3]), (98, [0, 2]), (114, [0, 1, 2, 3]), (154, [0, 1])]) mx_tbe245 93 H
set_option maxRecDepth 100000 in
theorem sl245_98 {E : mx_Ev} {n : Nat} {h : mx_H} {Q : Option mx_V → mx_H → Prop} {a2 : Int32}
    (H : mx_M E n 244 [.inr (.inl 105)] (mx_uI h (.inl 105) 61 a2) (fun v1 h2 => ∀ x3, v1 = some (.inl (.int x3)) → (Q none (mx_uI h2 (.inl 105) 62 x3)))) :
    mx_L E (n + 1) 245 98 [(0, .inr (.inl 105)), (2, .inl (.int a2))] [] h Q := mx_wl_sound (cuts := [(49, [0, 2, 3]), (59, [0, 2, 3]), (98, [0, 2]), (114, [0, 1, 2, 3]), (154, [0, 1])]) mx_tbe245 93 H
set_option maxRecDepth 100000 in
theorem sl245_154 {E : mx_Ev} {n : Nat} {h : mx_H} {Q : Option mx_V → mx_H → Prop} {a1 : Int32}
    (H : (vp_in a1 8) → (Q none (mx_uI h (.inl 146) (Int32.toNatClampNeg a1) 0))) :
    mx_L E (n + 1) 245 154 [(0, .inr (.inl 105)), (1, .inl (.int a1))] [] h Q := mx_wl_sound (cuts := [(49, [0, 2, 3]), (59, [0, 2, 3]), (98, [0, 2]), (114, [0, 1, 2, 3]), (154, [0, 1])]) mx_tbe245 93 H
set_option maxRecDepth 100000 in
theorem sl246_0 {E : mx_Ev} {n : Nat} {h : mx_H} {Q : Option mx_V → mx_H → Prop} {a1 : Int32}
    (H : mx_M E n 173 [.inl (.int a1), .inl (.int 0), .inl (.int 3)] h (fun v1 h2 => ∀ x3, v1 = some (.inl (.int x3)) → (((x3 ≠ 0) → ((((h2.2.1 (.inl 105) 51) = 0) → (Q (some (.inl (.int (-4)))) h2)) ∧ (¬ ((h2.2.1 (.inl 105) 51) = 0) → ((((h2.2.1 (.inl 105) 56) ≠ 0) → (mx_L E n 246 30 [(0, .inr (.inl 105)), (1, .inl (.int a1)), (2, .inl (.int 0))] [] h2 Q)) ∧ (¬ ((h2.2.1 (.inl 105) 56) ≠ 0) → (Q (some (.inl (.int (-4)))) h2)))))) ∧ (¬ (x3 ≠ 0) → (Q (some (.inl (.int (-1)))) h2))))) :
    mx_L E (n + 1) 246 0 [(0, .inr (.inl 105)), (1, .inl (.int a1))] [] h Q := mx_wl_sound (cuts := [(30, [0, 1, 2])]) mx_tbe246 76 H
set_option maxRecDepth 100000 in
theorem sl246_30 {E : mx_Ev} {n : Nat} {h : mx_H} {Q : Option mx_V → mx_H → Prop} {a1 : Int32} {a2 : Int32}
    (H : (((h.2.1 (.inl 105) 56) ≤ a2) → (mx_M E n 245 [.inr (.inl 105), .inl (.int 0), .inl (.int 0)] (mx_uI (mx_uI (mx_uI (mx_uI h (.inl 105) 61 (-1)) (.inl 105) 62 0) (.inl 105) 63 (-1)) (.inl 105) 64 0) (fun v1 h2 => v1 = none → (((a1 ≤ 1) → (((0 ≤ (h2.2.1 (.inl 105) 61)) → (((a1 ≠ 0) → (Q (some (.inl (.int (h2.2.1 (.inl 105) 62)))) h2)) ∧ (¬ (a1 ≠ 0) → (Q (some (.inl (.int (h2.2.1 (.inl 105) 61)))) h2)))) ∧ (¬ (0 ≤ (h2.2.1 (.inl 105) 61)) → (Q (some (.inl (.int (-2)))) h2)))) ∧ (¬ (a1 ≤ 1) → (((a1 ≠ 2) → (Q (some (.inl (.int (h2.2.1 (.inl 105) 64)))) h2)) ∧ (¬ (a1 ≠ 2) → (Q (some (.inl (.int (h2.2.1 (.inl 105) 63)))) h2)))))))) ∧ (¬ ((h.2.1 (.inl 105) 56) ≤ a2) → ((vp_in a2 6) → (mx_M E n 195 [.inr (.inl 105), .inl (.int (h.2.1 (.inl 105) 52))] h (fun v3 h4 => ∀ x5, v3 = some (.inl (.int x5)) → ((((h.2.1 (.inl 143) (Int32.toNatClampNeg a2)) < x5) → (mx_L E n 246 30 [(0, .inr (.inl 105)), (1, .inl (.int a1)), (2, .inl (.int (a2 + 1)))] [] h4 Q)) ∧ (¬ ((h.2.1 (.inl 143) (Int32.toNatClampNeg a2)) < x5) → (Q (some (.inl (.int (-4)))) h4)))))))) :
    mx_L E (n + 1) 246 30 [(0, .inr (.inl 105)), (1, .inl (.int a1)), (2, .inl (.int a2))] [] h Q := mx_wl_sound (cuts := [(30, [0, 1, 2])]) mx_tbe246 76 H
/-! ===== ints as numbers; cells read behind stores ===== -/
abbrev rD (h : mx_H) (a : mx_A) (i : Nat) : Int := (h.2.1 a i).toInt
theorem rI (h : mx_H) (a : mx_A) (i : Nat) (v : Int32) (b : mx_A) (j : Nat) : (mx_uI h a i v).2.1 b j = if b = a ∧ j = i then v else h.2.1 b j := rfl
section RT
variable {h : mx_H} {a b : mx_A} {i j : Nat} {v x y : Int32} {p q : Int} {k m : Nat}
theorem rI_s : (mx_uI h a i v).2.1 a i = v := if_pos ⟨rfl, rfl⟩
theorem rI_a (e : b ≠ a) : (mx_uI h a i v).2.1 b j = h.2.1 b j := if_neg (fun q => e q.1)
theorem rI_i (e : j ≠ i) : (mx_uI h a i v).2.1 b j = h.2.1 b j := if_neg (fun q => e q.2)
theorem rI_c (e1 : b = a) (e2 : j = i) : (mx_uI h a i v).2.1 b j = v := if_pos ⟨e1, e2⟩
theorem i_le (hx : x.toInt = p) (hy : y.toInt = q) (e : p ≤ q) : x ≤ y := Int32.le_iff_toInt_le.mpr (by omega)
theorem i_lt (hx : x.toInt = p) (hy : y.toInt = q) (e : p < q) : x < y := Int32.lt_iff_toInt_lt.mpr (by omega)
theorem i_nle (hx : x.toInt = p) (hy : y.toInt = q) (e : q < p) : ¬ x ≤ y := fun c => by
  have := Int32.le_iff_toInt_le.mp c
  omega
theorem i_nlt (hx : x.toInt = p) (hy : y.toInt = q) (e : q ≤ p) : ¬ x < y := fun c => by
  have := Int32.lt_iff_toInt_lt.mp c
  omega
theorem i_eq (hx : x.toInt = p) (hy : y.toInt = q) (e : p = q) : x = y := Int32.toInt_inj.mp (by omega)
theorem i_ne (hx : x.toInt = p) (hy : y.toInt = q) (e : p ≠ q) : ¬ x = y := fun c => by
  subst c
  omega
theorem i_cl (hx : x.toInt = (k : Int)) : x.toNatClampNeg = k := by
  show x.toInt.toNat = k
  omega
theorem i_b (x : Int32) : -2147483648 ≤ x.toInt ∧ x.toInt ≤ 2147483647 := ⟨Int32.le_toInt x, Int32.toInt_le x⟩
theorem i_add (hx : x.toInt = p) (hy : y.toInt = q) (h1 : -2147483648 ≤ p + q) (h2 : p + q ≤ 2147483647) : (x + y).toInt = p + q := by
  rw [Int32.toInt_add, hx, hy]
  exact iv_bm h1 h2
theorem i_sub (hx : x.toInt = p) (hy : y.toInt = q) (h1 : -2147483648 ≤ p - q) (h2 : p - q ≤ 2147483647) : (x - y).toInt = p - q := by
  rw [Int32.toInt_sub, hx, hy]
  exact iv_bm h1 h2
theorem i_mul (hx : x.toInt = p) (hy : y.toInt = q) (h1 : -2147483648 ≤ p * q) (h2 : p * q ≤ 2147483647) : (x * y).toInt = p * q := by
  rw [Int32.toInt_mul, hx, hy]
  exact iv_bm h1 h2
theorem i_n (hk : k < 2147483648) : (nI k).toInt = k := nI_toInt hk
theorem i_nI (hx : x.toInt = (k : Int)) : x = nI k := by
  have := i_b x
  exact i_eq hx (nI_toInt (by omega)) rfl
end RT
theorem k_0 : (0 : Int32).toInt = 0 := rfl
theorem k_1 : (1 : Int32).toInt = 1 := rfl
theorem k_2 : (2 : Int32).toInt = 2 := rfl
theorem k_3 : (3 : Int32).toInt = 3 := rfl
theorem k_4 : (4 : Int32).toInt = 4 := rfl
theorem k_5 : (5 : Int32).toInt = 5 := rfl
theorem k_6 : (6 : Int32).toInt = 6 := rfl
theorem k_9 : (9 : Int32).toInt = 9 := rfl
theorem k_10 : (10 : Int32).toInt = 10 := rfl
theorem k_12 : (12 : Int32).toInt = 12 := rfl
theorem k_15 : (15 : Int32).toInt = 15 := rfl
theorem k_36 : (36 : Int32).toInt = 36 := rfl
theorem k_48 : (48 : Int32).toInt = 48 := rfl
theorem k_49 : (49 : Int32).toInt = 49 := rfl
theorem k_57 : (57 : Int32).toInt = 57 := rfl
theorem k_59 : (59 : Int32).toInt = 59 := rfl
theorem k_97 : (97 : Int32).toInt = 97 := rfl
theorem k_99 : (99 : Int32).toInt = 99 := rfl
theorem k_104 : (104 : Int32).toInt = 104 := rfl
theorem k_112 : (112 : Int32).toInt = 112 := rfl
theorem k_115 : (115 : Int32).toInt = 115 := rfl
theorem k_119 : (119 : Int32).toInt = 119 := rfl
theorem k_120 : (120 : Int32).toInt = 120 := rfl
theorem k_200 : (200 : Int32).toInt = 200 := rfl
theorem k_m1 : (-1 : Int32).toInt = -1 := rfl
theorem k_m2 : (-2 : Int32).toInt = -2 := rfl
theorem k_m3 : (-3 : Int32).toInt = -3 := rfl
/-- within, in -/
theorem w157 {x a b : Int32} : f157 x a b = if a.toInt ≤ x.toInt ∧ x.toInt ≤ b.toInt then 1 else 0 := by
  rw [f157_eq]
  by_cases c1 : x < a
  · have := Int32.lt_iff_toInt_lt.mp c1
    rw [if_pos c1, if_neg (by omega)]
  · have q1 : a.toInt ≤ x.toInt := Int.not_lt.mp (fun q => c1 (Int32.lt_iff_toInt_lt.mpr q))
    rw [if_neg c1]
    by_cases c2 : b < x
    · have := Int32.lt_iff_toInt_lt.mp c2
      rw [if_pos c2, if_neg (by omega)]
    · have q2 : x.toInt ≤ b.toInt := Int.not_lt.mp (fun q => c2 (Int32.lt_iff_toInt_lt.mpr q))
      rw [if_neg c2, if_pos (by omega)]
theorem w173 {x a b : Int32} : f173 x a b = if a.toInt ≤ x.toInt ∧ x.toInt ≤ b.toInt then 1 else 0 := by
  rw [f173_eq, ← f157_eq]
  exact w157
theorem w157_1 {x a b : Int32} {p q r : Int} (hx : x.toInt = p) (ha : a.toInt = q) (hb : b.toInt = r) (e : q ≤ p ∧ p ≤ r) : f157 x a b = 1 := by
  rw [w157, if_pos (by omega)]
theorem w157_0 {x a b : Int32} {p q r : Int} (hx : x.toInt = p) (ha : a.toInt = q) (hb : b.toInt = r) (e : ¬ (q ≤ p ∧ p ≤ r)) : f157 x a b = 0 := by
  rw [w157, if_neg (by omega)]
theorem w173_1 {x a b : Int32} {p q r : Int} (hx : x.toInt = p) (ha : a.toInt = q) (hb : b.toInt = r) (e : q ≤ p ∧ p ≤ r) : f173 x a b = 1 := by
  rw [w173, if_pos (by omega)]
theorem w173_0 {x a b : Int32} {p q r : Int} (hx : x.toInt = p) (ha : a.toInt = q) (hb : b.toInt = r) (e : ¬ (q ≤ p ∧ p ≤ r)) : f173 x a b = 0 := by
  rw [w173, if_neg (by omega)]
theorem n10 : ¬ (1 : Int32) = 0 := by decide +kernel
theorem e00 : (0 : Int32) = 0 := rfl
/-- places -/
theorem w179 {x y z : Int32} {s a b : Nat} (hx : x.toInt = (s : Int)) (hy : y.toInt = (a : Int)) (hz : z.toInt = (b : Int)) (hs : s ≤ 12) (ha : a < 6) (hb : b < 6) : (f179 x y z).toInt = ((36 * s + 6 * a + b : Nat) : Int) := by
  rw [f179_eq]
  have e1 := i_mul k_36 hx (by omega) (by omega)
  have e2 := i_mul k_6 hy (by omega) (by omega)
  have e3 := i_add e1 e2 (by omega) (by omega)
  have e4 := i_add e3 hz (by omega) (by omega)
  rw [e4]
  omega
theorem w6 {x y : Int32} {s a : Nat} (hx : x.toInt = (s : Int)) (hy : y.toInt = (a : Int)) (hs : s ≤ 12) (ha : a < 6) : (6 * x + y).toInt = ((6 * s + a : Nat) : Int) := by
  have e1 := i_mul k_6 hx (by omega) (by omega)
  have e2 := i_add e1 hy (by omega) (by omega)
  rw [e2]
  omega
/-! ===== the text is read alike: tokens ===== -/
/-- a byte of the class and of the reference -/
def rz_b (c r : Int) : Prop := 0 ≤ c ∧ c ≤ 255 ∧ r = if c ≤ 127 then c else c - 256
def rz_T (hc hr : mx_H) (L p : Nat) : Prop := L ≤ 120 ∧ p ≤ L ∧ rD hc (.inl 1) 1 = L ∧ rD hc (.inl 1) 2 = p ∧ rD hr (.inl 105) 16 = L ∧ rD hr (.inl 105) 17 = p ∧ ∀ i, i < L → rz_b (rD hc (.inl 2) i) (rD hr (.inl 118) i)
/-- one sign further -/
def rz_c (h : mx_H) : mx_H := mx_uI h (.inl 1) 2 (h.2.1 (.inl 1) 2 + 1)
def rz_r (h : mx_H) : mx_H := mx_uI h (.inl 105) 17 (h.2.1 (.inl 105) 17 + 1)
section RZ
variable {hc hr : mx_H} {L p S C n : Nat}
theorem rz_tok (t : rz_T hc hr L p) : ∃ c : Int, (f92 hc).toInt = c ∧ (f185 hr).toInt = (if c ≤ 127 then c else c - 256) ∧ -1 ≤ c ∧ c ≤ 255 ∧ (c = -1 ↔ p = L) := by
  obtain ⟨l, pl, t1, t2, t3, t4, tb⟩ := t
  rw [f92_eq, f185_eq]
  by_cases e : p = L
  · refine ⟨-1, ?_, ?_, by decide +kernel, by decide +kernel, by simp [e]⟩
    · rw [if_pos (i_le t1 t2 (by omega))]
      rfl
    · rw [if_pos (i_le t3 t4 (by omega))]
      rfl
  · obtain ⟨b1, b2, b3⟩ := tb p (by omega)
    refine ⟨rD hc (.inl 2) p, ?_, ?_, by omega, by omega, by omega⟩
    · rw [if_neg (i_nle t1 t2 (by omega)), if_neg (i_nle k_120 t2 (by omega)), i_cl t2]
    · rw [if_neg (i_nle t3 t4 (by omega)), i_cl t4]
      exact b3
theorem rz_adv (t : rz_T hc hr L p) (h : p < L) : rz_T (rz_c hc) (rz_r hr) L (p + 1) := by
  obtain ⟨l, pl, t1, t2, t3, t4, tb⟩ := t
  refine ⟨l, h, t1, ?_, t3, ?_, tb⟩
  · show (hc.2.1 (.inl 1) 2 + 1).toInt = _
    rw [i_add t2 k_1 (by omega) (by omega)]
    omega
  · show (hr.2.1 (.inl 105) 17 + 1).toInt = _
    rw [i_add t4 k_1 (by omega) (by omega)]
    omega
/-- a digit: both see it, or none -/
theorem rz_dig (t : rz_T hc hr L p) : (∃ d : Int, 1 ≤ d ∧ d ≤ 9 ∧ p < L ∧ (f93 hc).toInt = d ∧ f188 hr = (f93 hc, rz_r hr) ∧ ¬ f187 hr = 0) ∨ (f93 hc = 0 ∧ f187 hr = 0 ∧ f188 hr = (0, f186 hr)) := by
  obtain ⟨c, e1, e2, c1, c2, c3⟩ := rz_tok t
  by_cases q : 49 ≤ c ∧ c ≤ 57
  · have q1 : (f93 hc).toInt = c - 48 := by
      rw [f93_eq]
      show (if f157 (f92 hc) 49 57 = 0 then (0 : Int32) else f92 hc - 48).toInt = _
      rw [w157_1 e1 k_49 k_57 q, if_neg n10]
      exact i_sub e1 k_48 (by omega) (by omega)
    have e2' : (f185 hr).toInt = c := by rw [e2, if_pos (by omega)]
    have q2 : f187 hr = 1 := by rw [f187_eq, w173_1 e2' k_49 k_57 q]
    have q3 : f185 hr - 48 = f93 hc := i_eq (i_sub e2' k_48 (by omega) (by omega)) q1 rfl
    have pl := t.2.1
    refine Or.inl ⟨c - 48, by omega, by omega, by omega, q1, ?_, by rw [q2]; exact n10⟩
    rw [f188_eq, if_pos (by rw [q2]; exact n10), q3]
    rfl
  · have q1 : f93 hc = 0 := by
      rw [f93_eq]
      show (if f157 (f92 hc) 49 57 = 0 then (0 : Int32) else f92 hc - 48) = _
      rw [w157_0 e1 k_49 k_57 q, if_pos rfl]
    have q2 : f187 hr = 0 := by
      rw [f187_eq]
      refine w173_0 e2 k_49 k_57 ?_
      split <;> omega
    refine Or.inr ⟨q1, q2, ?_⟩
    rw [f188_eq, if_neg (by rw [q2]; exact fun q => q rfl)]
    rfl
/-- a corner's letter: both see it, or none -/
theorem rz_let (t : rz_T hc hr L p) (C6 : C ≤ 6) (S12 : S ≤ 12) (hC : rD hc (.inr (S, 0)) 0 = C) (hR : rD hr (.inl 106) S = C) (hS : rD hr (.inl 105) 1 = S) : (∃ x : Int32, ∃ k : Nat, k < C ∧ p < L ∧ x.toInt = k ∧ f94 S hc = x ∧ f189 hr = x) ∨ (f94 S hc = -1 ∧ f189 hr = -1) := by
  obtain ⟨c, e1, e2, c1, c2, c3⟩ := rz_tok t
  have pl := t.2.1
  have h1 : (f92 hc - 97).toInt = c - 97 := i_sub e1 k_97 (by omega) (by omega)
  have h2 : (hc.2.1 (.inr (S, 0)) 0 - 1).toInt = (C : Int) - 1 := i_sub hC k_1 (by omega) (by omega)
  have h3 : (hr.2.1 (.inl 106) S - 1).toInt = (C : Int) - 1 := i_sub hR k_1 (by omega) (by omega)
  have A : f94 S hc = if f157 (f92 hc - 97) 0 (hc.2.1 (.inr (S, 0)) 0 - 1) = 0 then -1 else f92 hc - 97 := by rw [f94_eq]; rfl
  have B : f189 hr = if f173 (f185 hr - 97) 0 (hr.2.1 (.inl 106) S - 1) = 0 then -1 else f185 hr - 97 := by
    rw [f189_eq]
    show (if f178 (hr.2.1 (.inl 105) 1) (f185 hr - 97) hr = 0 then (-1 : Int32) else f185 hr - 97) = _
    rw [f178_eq, i_cl hS]
  by_cases q : 0 ≤ c - 97 ∧ c - 97 ≤ (C : Int) - 1
  · have e2' : (f185 hr).toInt = c := by rw [e2, if_pos (by omega)]
    have h4 : (f185 hr - 97).toInt = c - 97 := i_sub e2' k_97 (by omega) (by omega)
    refine Or.inl ⟨f92 hc - 97, (c - 97).toNat, by omega, by omega, by omega, ?_, ?_⟩
    · rw [A, w157_1 h1 k_0 h2 q, if_neg n10]
    · rw [B, w173_1 h4 k_0 h3 q, if_neg n10]
      exact i_eq h4 h1 rfl
  · refine Or.inr ⟨?_, ?_⟩
    · rw [A, w157_0 h1 k_0 h2 q, if_pos rfl]
    · by_cases c4 : c ≤ 127
      · have e2' : (f185 hr).toInt = c := by rw [e2, if_pos c4]
        rw [B, w173_0 (i_sub e2' k_97 (by omega) (by omega)) k_0 h3 q, if_pos rfl]
      · have e2' : (f185 hr).toInt = c - 256 := by rw [e2, if_neg c4]
        rw [B, w173_0 (i_sub e2' k_97 (by omega) (by omega)) k_0 h3 (by omega), if_pos rfl]
/-- a sign is named alike -/
theorem rz_is (t : rz_T hc hr L p) {x : Int32} {z : Int} (hx : x.toInt = z) (z0 : 0 ≤ z) (z1 : z ≤ 127) : (f92 hc = x ∧ f185 hr = x ∧ p < L) ∨ (¬ f92 hc = x ∧ ¬ f185 hr = x) := by
  obtain ⟨c, e1, e2, c1, c2, c3⟩ := rz_tok t
  have pl := t.2.1
  by_cases q : c = z
  · exact Or.inl ⟨i_eq e1 hx q, i_eq e2 hx (by rw [if_pos (by omega)]; exact q), by omega⟩
  · refine Or.inr ⟨i_ne e1 hx q, i_ne e2 hx ?_⟩
    split <;> omega
end RZ
/-! ===== what a text has told so far, on both sides ===== -/
/-- piece k of what is read: from a to b -/
def rz_k (hc hr : mx_H) (S C k a b : Nat) : Prop := a < C ∧ b < C ∧ a ≠ b ∧ rD hr (.inl 119) k = a ∧ rD hr (.inl 120) k = b ∧ rD hc (.inr (S, 5)) k = (min a b : Nat) ∧ rD hc (.inr (S, 6)) k = (max a b : Nat) ∧
  hr.2.1 (.inl 113) (36 * S + 6 * a + b) = 1 ∧ hr.2.1 (.inl 113) (36 * S + 6 * b + a) = 1 ∧ hr.2.1 (.inl 111) (36 * S + 6 * a + b) = hc.2.1 (.inr (S, 7)) k ∧ hr.2.1 (.inl 111) (36 * S + 6 * b + a) = hc.2.1 (.inr (S, 7)) k ∧
  hr.2.1 (.inl 112) (36 * S + 6 * a + b) = 0 ∧ hr.2.1 (.inl 112) (36 * S + 6 * b + a) = 0 ∧ hc.2.1 (.inr (S, 8)) k = 0
def rz_g (hr : mx_H) (S : Nat) (c : Nat) : Bool := decide (hr.2.1 (.inl 113) (36 * S + c) ≠ 0)
def rz_P (hc hr : mx_H) (S C n : Nat) : Prop := (∀ k, k < n → ∃ a b : Nat, rz_k hc hr S C k a b) ∧ (∀ a b, a < 6 → b < 6 → hr.2.1 (.inl 113) (36 * S + 6 * a + b) = 0 ∨ ∃ k, k < n ∧ (rz_k hc hr S C k a b ∨ rz_k hc hr S C k b a)) ∧ n = sd_C sd_CL (rz_g hr S) ∧ ∀ k k' u v, k < n → k' < n → k ≠ k' → rz_k hc hr S C k u v → ¬ rz_k hc hr S C k' u v ∧ ¬ rz_k hc hr S C k' v u
def rz_C (hc hr : mx_H) (S C n : Nat) : Prop := C ≤ 6 ∧ rD hc (.inr (S, 0)) 0 = C ∧ rD hr (.inl 106) S = C ∧ rD hc (.inr (S, 0)) 6 = n ∧ rD hr (.inl 105) 19 = n ∧
  (∀ c, c < C → hc.2.1 (.inr (S, 1)) c = hr.2.1 (.inl 107) (6 * S + c)) ∧
  (∀ c, c < 6 → hc.2.1 (.inr (S, 2)) c = hr.2.1 (.inl 108) (6 * S + c) ∧ hc.2.1 (.inr (S, 3)) c = hr.2.1 (.inl 109) (6 * S + c) ∧ hc.2.1 (.inr (S, 4)) c = hr.2.1 (.inl 110) (6 * S + c) ∧ (hr.2.1 (.inl 121) c = 0 ↔ hc.2.1 (.inr (S, 2)) c = 0) ∧ (hr.2.1 (.inl 122) c = 0 ↔ hc.2.1 (.inr (S, 3)) c = 0)) ∧
  rz_P hc hr S C n
/-- the class changed no more than the draft and where it reads -/
def rz_FC (S : Nat) (h h' : mx_H) : Prop := h'.1 = h.1 ∧ h'.2.2 = h.2.2 ∧ (∀ k i, ¬ (k = 1 ∧ i = 2) → h'.2.1 (.inl k) i = h.2.1 (.inl k) i) ∧ ∀ s o i, ¬ (s = S ∧ o < 9 ∧ (o = 0 → i = 0 ∨ i = 6)) → h'.2.1 (.inr (s, o)) i = h.2.1 (.inr (s, o)) i
/-- the same, with all of the draft -/
def rz_FW (S : Nat) (h h' : mx_H) : Prop := h'.1 = h.1 ∧ h'.2.2 = h.2.2 ∧ (∀ k i, ¬ (k = 1 ∧ i = 2) → h'.2.1 (.inl k) i = h.2.1 (.inl k) i) ∧ ∀ s o i, ¬ (s = S ∧ o < 9) → h'.2.1 (.inr (s, o)) i = h.2.1 (.inr (s, o)) i
/-- the reference no more than its draft's places -/
def rz_w (S k i : Nat) : Prop := (k = 105 ∧ (i = 17 ∨ i = 18 ∨ i = 19)) ∨ (k = 106 ∧ i = S) ∨ ((k = 107 ∨ k = 108 ∨ k = 109 ∨ k = 110) ∧ 6 * S ≤ i ∧ i < 6 * S + 6) ∨ ((k = 111 ∨ k = 112 ∨ k = 113) ∧ 36 * S ≤ i ∧ i < 36 * S + 36) ∨ k = 119 ∨ k = 120 ∨ k = 121 ∨ k = 122
def rz_FR (S : Nat) (h h' : mx_H) : Prop := h'.1 = h.1 ∧ h'.2.2 = h.2.2 ∧ (∀ q i, h'.2.1 (.inr q) i = h.2.1 (.inr q) i) ∧ ∀ k i, ¬ rz_w S k i → h'.2.1 (.inl k) i = h.2.1 (.inl k) i
theorem rz_FC.refl {S : Nat} {h : mx_H} : rz_FC S h h := ⟨rfl, rfl, fun _ _ _ => rfl, fun _ _ _ _ => rfl⟩
theorem rz_FC.trans {S : Nat} {h h' h'' : mx_H} (a : rz_FC S h h') (b : rz_FC S h' h'') : rz_FC S h h'' := ⟨b.1.trans a.1, b.2.1.trans a.2.1, fun k i q => (b.2.2.1 k i q).trans (a.2.2.1 k i q), fun s o i q => (b.2.2.2 s o i q).trans (a.2.2.2 s o i q)⟩
theorem rz_FC.c {S : Nat} {h h' : mx_H} {v : Int32} (a : rz_FC S h h') : rz_FC S h (mx_uI h' (.inl 1) 2 v) := ⟨a.1, a.2.1, fun k i q => (if_neg (fun e => q ⟨Sum.inl.inj e.1, e.2⟩)).trans (a.2.2.1 k i q), fun s o i q => a.2.2.2 s o i q⟩
theorem rz_FC.s {S o i : Nat} {h h' : mx_H} {v : Int32} (ho : o < 9) (a : rz_FC S h h') (hi : o = 0 → i = 0 ∨ i = 6 := by intro _; omega) : rz_FC S h (mx_uI h' (.inr (S, o)) i v) := ⟨a.1, a.2.1, fun k j q => a.2.2.1 k j q, fun s o' j q => (if_neg (fun e => by
  obtain ⟨e1, e2⟩ := e
  cases e1
  subst e2
  exact q ⟨rfl, ho, hi⟩)).trans (a.2.2.2 s o' j q)⟩
theorem rz_FW.refl {S : Nat} {h : mx_H} : rz_FW S h h := ⟨rfl, rfl, fun _ _ _ => rfl, fun _ _ _ _ => rfl⟩
theorem rz_FW.trans {S : Nat} {h h' h'' : mx_H} (a : rz_FW S h h') (b : rz_FW S h' h'') : rz_FW S h h'' := ⟨b.1.trans a.1, b.2.1.trans a.2.1, fun k i q => (b.2.2.1 k i q).trans (a.2.2.1 k i q), fun s o i q => (b.2.2.2 s o i q).trans (a.2.2.2 s o i q)⟩
theorem rz_FW.c {S : Nat} {h h' : mx_H} {v : Int32} (a : rz_FW S h h') : rz_FW S h (mx_uI h' (.inl 1) 2 v) := ⟨a.1, a.2.1, fun k i q => (if_neg (fun e => q ⟨Sum.inl.inj e.1, e.2⟩)).trans (a.2.2.1 k i q), fun s o i q => a.2.2.2 s o i q⟩
theorem rz_FW.s {S o i : Nat} {h h' : mx_H} {v : Int32} (ho : o < 9) (a : rz_FW S h h') : rz_FW S h (mx_uI h' (.inr (S, o)) i v) := ⟨a.1, a.2.1, fun k j q => a.2.2.1 k j q, fun s o' j q => (if_neg (fun e => by
  obtain ⟨e1, -⟩ := e
  cases e1
  exact q ⟨rfl, ho⟩)).trans (a.2.2.2 s o' j q)⟩
theorem rz_FC.w {S : Nat} {h h' : mx_H} (a : rz_FC S h h') : rz_FW S h h' := ⟨a.1, a.2.1, a.2.2.1, fun s o i q => a.2.2.2 s o i (fun e => q ⟨e.1, e.2.1⟩)⟩
theorem rz_FR.refl {S : Nat} {h : mx_H} : rz_FR S h h := ⟨rfl, rfl, fun _ _ => rfl, fun _ _ _ => rfl⟩
theorem rz_FR.trans {S : Nat} {h h' h'' : mx_H} (a : rz_FR S h h') (b : rz_FR S h' h'') : rz_FR S h h'' := ⟨b.1.trans a.1, b.2.1.trans a.2.1, fun q i => (b.2.2.1 q i).trans (a.2.2.1 q i), fun k i q => (b.2.2.2 k i q).trans (a.2.2.2 k i q)⟩
theorem rz_FR.u {S k i : Nat} {h h' : mx_H} {v : Int32} (hw : rz_w S k i) (a : rz_FR S h h') : rz_FR S h (mx_uI h' (.inl k) i v) := ⟨a.1, a.2.1, fun q j => a.2.2.1 q j, fun k' j q => (if_neg (fun e => by
  obtain ⟨e1, e2⟩ := e
  cases e1
  subst e2
  exact q hw)).trans (a.2.2.2 k' j q)⟩
/-! ===== the parts of a text, on both sides ===== -/
theorem rS {h : mx_H} {S o o' i : Nat} {v : Int32} (ho : o ≠ o') : (mx_uI h (.inr (S, o')) i v).2.1 (.inr (S, o)) = h.2.1 (.inr (S, o)) := funext fun _ => rI_a (ne_oo ho)
theorem rN {h : mx_H} {k k' i : Nat} {v : Int32} (hk : k ≠ k') : (mx_uI h (.inl k') i v).2.1 (.inl k) = h.2.1 (.inl k) := funext fun _ => rI_a (fun e => hk (Sum.inl.inj e))
theorem rLR {h : mx_H} {k i : Nat} {q : Nat × Nat} {v : Int32} : (mx_uI h (.inr q) i v).2.1 (.inl k) = h.2.1 (.inl k) := rfl
theorem rRL {h : mx_H} {k i : Nat} {q : Nat × Nat} {v : Int32} : (mx_uI h (.inl k) i v).2.1 (.inr q) = h.2.1 (.inr q) := rfl
theorem rz_P.x {hc hc' hr hr' : mx_H} {S C n : Nat} (e5 : hc'.2.1 (.inr (S, 5)) = hc.2.1 (.inr (S, 5))) (e6 : hc'.2.1 (.inr (S, 6)) = hc.2.1 (.inr (S, 6))) (e7 : hc'.2.1 (.inr (S, 7)) = hc.2.1 (.inr (S, 7))) (e8 : hc'.2.1 (.inr (S, 8)) = hc.2.1 (.inr (S, 8)))
    (r1 : hr'.2.1 (.inl 119) = hr.2.1 (.inl 119)) (r2 : hr'.2.1 (.inl 120) = hr.2.1 (.inl 120)) (r3 : hr'.2.1 (.inl 113) = hr.2.1 (.inl 113)) (r4 : hr'.2.1 (.inl 111) = hr.2.1 (.inl 111)) (r5 : hr'.2.1 (.inl 112) = hr.2.1 (.inl 112)) (P : rz_P hc hr S C n) : rz_P hc' hr' S C n := by
  unfold rz_P rz_k rz_g rD at P ⊢
  rw [e5, e6, e7, e8, r1, r2, r3, r4, r5]
  exact P
/-- how a part ends: alike on both sides -/
def rz_O (S L C p : Nat) (hc hr : mx_H) (r : Int32 × mx_H) (hr' : mx_H) : Prop :=
  rz_FC S hc r.2 ∧ rz_FR S hr hr' ∧ ((¬ r.1 = 0 ∧ rD hr' (.inl 105) 18 = -1 ∧ ∃ p' n', p < p' ∧ rz_T r.2 hr' L p' ∧ rz_C r.2 hr' S C n') ∨ (r.1 = 0 ∧ 0 ≤ rD hr' (.inl 105) 18 ∧ 0 ≤ rD r.2 (.inl 1) 2))
theorem G34 (a1 : Int32) (h : mx_H) : g191_34 a1 h = if a1 ≠ 112 then (if f189 (rz_r h) < 0 then g191_121 a1 (f189 (rz_r h)) (rz_r h) else if a1 ≠ 115 then (if a1 ≠ 119 then (if (rz_r h).2.1 (.inl 110) (Int32.toNatClampNeg (6 * h.2.1 (.inl 105) 1 + f189 (rz_r h))) = 0 then g191_121 a1 (f189 (rz_r h)) (rz_r h) else g191_117 a1 (f189 (rz_r h)) (rz_r h)) else (if (rz_r h).2.1 (.inl 122) (Int32.toNatClampNeg (f189 (rz_r h))) = 0 then g191_121 a1 (f189 (rz_r h)) (rz_r h) else g191_117 a1 (f189 (rz_r h)) (rz_r h))) else (if (rz_r h).2.1 (.inl 121) (Int32.toNatClampNeg (f189 (rz_r h))) = 0 then g191_121 a1 (f189 (rz_r h)) (rz_r h) else g191_117 a1 (f189 (rz_r h)) (rz_r h))) else f190 (rz_r h) := g191_34_eq a1 h
theorem G131 (h : mx_H) : g191_131 h = f186 h := g191_131_eq h
theorem G117 (a1 a2 : Int32) (h : mx_H) : g191_117 a1 a2 h = f186 h := by
  rw [g191_117_eq, if_neg (show ¬ (1 : Int32) = 0 by decide +kernel), ite_self, G131]
theorem G121 (a1 a2 : Int32) (h : mx_H) : g191_121 a1 a2 h = if a2 < 0 then f186 h else if a1 ≠ 104 then (x_let (f188 (rz_r h)) (fun x3 h2 => if h2.2.1 (.inl 105) 18 < 0 then (if a1 ≠ 115 then mx_uI (mx_uI h2 (.inl 109) (Int32.toNatClampNeg (6 * h.2.1 (.inl 105) 1 + a2)) x3) (.inl 122) (Int32.toNatClampNeg a2) 1 else mx_uI (mx_uI h2 (.inl 108) (Int32.toNatClampNeg (6 * h.2.1 (.inl 105) 1 + a2)) x3) (.inl 121) (Int32.toNatClampNeg a2) 1) else h2)) else mx_uI (rz_r h) (.inl 110) (Int32.toNatClampNeg (6 * h.2.1 (.inl 105) 1 + a2)) 1 := by
  rw [g191_121_eq, if_pos (show (0 : Int32) = 0 from rfl), G131]
  rfl
section RP
variable {hc hr : mx_H} {L p S C n : Nat}
theorem G186 (hF : rD hr (.inl 105) 18 = -1) : f186 hr = mx_uI hr (.inl 105) 18 (hr.2.1 (.inl 105) 17) := by
  rw [f186_eq, if_neg (i_nle k_0 hF (by omega))]
theorem rz_bad {hr0 : mx_H} {r : Int32 × mx_H} (t : rz_T hc hr L p) (hF : rD hr (.inl 105) 18 = -1) (a : rz_FC S hc r.2) (b : rz_FR S hr0 hr) (e : r = (0, hc)) {p0 : Nat} {hc0 : mx_H} (a0 : rz_FC S hc0 r.2) : rz_O S L C p0 hc0 hr0 r (f186 hr) := by
  subst e
  refine ⟨a0, ?_, Or.inr ⟨rfl, ?_, ?_⟩⟩
  · rw [G186 hF]
    exact b.u (Or.inl ⟨rfl, Or.inr (Or.inl rfl)⟩)
  · rw [G186 hF]
    show 0 ≤ rD hr (.inl 105) 17
    rw [t.2.2.2.2.2.1]
    omega
  · show 0 ≤ rD hc (.inl 1) 2
    rw [t.2.2.2.1]
    omega
theorem rz_FRr {hr0 : mx_H} (b : rz_FR S hr0 hr) : rz_FR S hr0 (rz_r hr) := b.u (Or.inl ⟨rfl, Or.inl rfl⟩)
theorem rz_FCc {hc0 : mx_H} (a : rz_FC S hc0 hc) : rz_FC S hc0 (rz_c hc) := a.c
theorem rz_Cr (K : rz_C hc hr S C n) : rz_C hc (rz_r hr) S C n := K
theorem rz_Cc (K : rz_C hc hr S C n) : rz_C (rz_c hc) hr S C n := K
/-- h: a hold -/
theorem rz_hold (t : rz_T hc (rz_r hr) L p) (K : rz_C hc (rz_r hr) S C n) (hF : rD hr (.inl 105) 18 = -1) (hS : rD hr (.inl 105) 1 = S) (S11 : S ≤ 12) : rz_O S L C p hc hr (f90 S hc) (g191_34 104 hr) := by
  have hF' : rD (rz_r hr) (.inl 105) 18 = -1 := hF
  have hS' : rD (rz_r hr) (.inl 105) 1 = S := hS
  obtain ⟨C6, k1, k2, k3, k4, k5, k6, kP⟩ := id K
  rw [G34, if_pos (show (104 : Int32) ≠ 112 by decide +kernel), if_pos (show (104 : Int32) ≠ 115 by decide +kernel), if_pos (show (104 : Int32) ≠ 119 by decide +kernel)]
  show rz_O S L C p hc hr (f90 S hc) (if f189 (rz_r hr) < 0 then g191_121 104 (f189 (rz_r hr)) (rz_r hr) else if (rz_r hr).2.1 (.inl 110) (Int32.toNatClampNeg (6 * hr.2.1 (.inl 105) 1 + f189 (rz_r hr))) = 0 then g191_121 104 (f189 (rz_r hr)) (rz_r hr) else g191_117 104 (f189 (rz_r hr)) (rz_r hr))
  have Cq : f90 S hc = if f94 S hc < 0 then (0, hc) else if hc.2.1 (.inr (S, 4)) (Int32.toNatClampNeg (f94 S hc)) = 0 then (1, mx_uI (rz_c hc) (.inr (S, 4)) (Int32.toNatClampNeg (f94 S hc)) 1) else (0, hc) := f90_eq S hc
  rcases rz_let t C6 (by omega) k1 k2 hS' with ⟨x, k, hk, pl, hx, e1, e2⟩ | ⟨e1, e2⟩
  · have w := w6 hS hx (by omega) (by omega)
    have kk := k6 k (by omega)
    rw [e2, if_neg (i_nlt hx k_0 (by omega)), i_cl w, G121, if_neg (i_nlt hx k_0 (by omega)), if_neg (show ¬ (104 : Int32) ≠ 104 from fun q => q rfl), G117]
    rw [e1, if_neg (i_nlt hx k_0 (by omega)), i_cl hx] at Cq
    by_cases z : hc.2.1 (.inr (S, 4)) k = 0
    · rw [if_pos (by rw [← kk.2.2.1]; exact z)]
      rw [if_pos z] at Cq
      rw [Cq]
      refine ⟨(rz_FCc rz_FC.refl).s (by decide +kernel), ?_, Or.inl ⟨n10, hF, p + 1, n, by omega, ?_, ?_⟩⟩
      · refine (rz_FRr (rz_FRr rz_FR.refl)).u (Or.inr (Or.inr (Or.inl ⟨by omega, ?_⟩)))
        have := i_cl (x := 6 * (rz_r hr).2.1 (.inl 105) 1 + x) w
        omega
      · exact rz_adv t pl
      · show rz_C (mx_uI (rz_c hc) (.inr (S, 4)) k 1) (mx_uI (rz_r (rz_r hr)) (.inl 110) (Int32.toNatClampNeg (6 * hr.2.1 (.inl 105) 1 + x)) 1) S C n
        rw [i_cl w]
        refine ⟨C6, ?_, k2, ?_, k4, fun c q => ?_, fun c q => ?_, rz_P.x (rS (by decide +kernel)) (rS (by decide +kernel)) (rS (by decide +kernel)) (rS (by decide +kernel)) rfl rfl rfl rfl rfl kP⟩
        · unfold rD
          rw [rS (by decide +kernel)]
          exact k1
        · unfold rD
          rw [rS (by decide +kernel)]
          exact k3
        · rw [rS (by decide +kernel)]
          exact k5 c q
        · obtain ⟨c1, c2, c3, c4, c5⟩ := k6 c q
          rw [rS (show 2 ≠ 4 by decide +kernel), rS (show 3 ≠ 4 by decide +kernel)]
          refine ⟨c1, c2, ?_, c4, c5⟩
          by_cases e : c = k
          · subst e
            rw [rI_s, rI_s]
          · rw [rI_i e, rI_i (by omega)]
            exact c3
    · rw [if_neg (by rw [← kk.2.2.1]; exact z)]
      rw [if_neg z] at Cq
      rw [Cq]
      exact rz_bad (C := C) t hF' rz_FC.refl (rz_FRr rz_FR.refl) rfl rz_FC.refl
  · rw [e2, if_pos (show (-1 : Int32) < 0 by decide +kernel), G121, if_pos (show (-1 : Int32) < 0 by decide +kernel)]
    rw [e1, if_pos (show (-1 : Int32) < 0 by decide +kernel)] at Cq
    rw [Cq]
    exact rz_bad (C := C) t hF' rz_FC.refl (rz_FRr rz_FR.refl) rfl rz_FC.refl
/-- 115: a pad -/
theorem rz_pad (t : rz_T hc (rz_r hr) L p) (K : rz_C hc (rz_r hr) S C n) (hF : rD hr (.inl 105) 18 = -1) (hS : rD hr (.inl 105) 1 = S) (S11 : S ≤ 12) : rz_O S L C p hc hr (f91 S (.inr (S, 2)) hc) (g191_34 115 hr) := by
  have hF' : rD (rz_r hr) (.inl 105) 18 = -1 := hF
  have hS' : rD (rz_r hr) (.inl 105) 1 = S := hS
  obtain ⟨C6, k1, k2, k3, k4, k5, k6, kP⟩ := id K
  rw [G34, if_pos (show (115 : Int32) ≠ 112 by decide +kernel), if_neg (show ¬ (115 : Int32) ≠ 115 from fun q => q rfl)]
  show rz_O S L C p hc hr (f91 S (.inr (S, 2)) hc) (if f189 (rz_r hr) < 0 then g191_121 115 (f189 (rz_r hr)) (rz_r hr) else if (rz_r hr).2.1 (.inl 121) (Int32.toNatClampNeg (f189 (rz_r hr))) = 0 then g191_121 115 (f189 (rz_r hr)) (rz_r hr) else g191_117 115 (f189 (rz_r hr)) (rz_r hr))
  have Cq : f91 S (.inr (S, 2)) hc = if f94 S hc < 0 then (0, hc) else if hc.2.1 (.inr (S, 2)) (Int32.toNatClampNeg (f94 S hc)) = 0 then (if f93 (rz_c hc) ≠ 0 then (1, rz_c (mx_uI (rz_c hc) (.inr (S, 2)) (Int32.toNatClampNeg (f94 S hc)) (f93 (rz_c hc)))) else (0, rz_c hc)) else (0, hc) := f91_eq S (.inr (S, 2)) hc
  rcases rz_let t C6 (by omega) k1 k2 hS' with ⟨x, k, hk, pl, hx, e1, e2⟩ | ⟨e1, e2⟩
  · have w := w6 hS hx (by omega) (by omega)
    have kk := k6 k (by omega)
    have t' := rz_adv t pl
    rw [e2, if_neg (i_nlt hx k_0 (by omega)), i_cl hx, G121, if_neg (i_nlt hx k_0 (by omega)), if_pos (show (115 : Int32) ≠ 104 by decide +kernel), G117]
    rw [e1, if_neg (i_nlt hx k_0 (by omega)), i_cl hx] at Cq
    by_cases z : hc.2.1 (.inr (S, 2)) k = 0
    · rw [if_pos (kk.2.2.2.1.mpr z)]
      rw [if_pos z] at Cq
      rcases rz_dig t' with ⟨d, d1, d9, pl', dv, d8, -⟩ | ⟨d0, -, d8⟩
      · rw [if_pos (i_ne dv k_0 (by omega))] at Cq
        rw [Cq, d8]
        have w' : (6 * (rz_r hr).2.1 (.inl 105) 1 + x).toInt = ((6 * S + k : Nat) : Int) := w
        show rz_O S L C p hc hr _ (if (rz_r (rz_r (rz_r hr))).2.1 (.inl 105) 18 < 0 then _ else _)
        rw [if_pos (i_lt (show ((rz_r (rz_r (rz_r hr))).2.1 (.inl 105) 18).toInt = -1 from hF) k_0 (by omega)), if_neg (show ¬ (115 : Int32) ≠ 115 from fun q => q rfl), i_cl hx, i_cl w']
        refine ⟨rz_FCc ((rz_FCc rz_FC.refl).s (by decide +kernel)), ((rz_FRr (rz_FRr (rz_FRr rz_FR.refl))).u (Or.inr (Or.inr (Or.inl ⟨by omega, by omega, by omega⟩)))).u (by unfold rz_w; omega), Or.inl ⟨n10, hF, p + 2, n, by omega, rz_adv t' pl', ?_⟩⟩
        refine ⟨C6, ?_, k2, ?_, k4, fun c q => ?_, fun c q => ?_, rz_P.x (rS (by decide +kernel)) (rS (by decide +kernel)) (rS (by decide +kernel)) (rS (by decide +kernel)) rfl rfl rfl rfl rfl kP⟩
        · show ((mx_uI (rz_c hc) (.inr (S, 2)) k (f93 (rz_c hc))).2.1 (.inr (S, 0)) 0).toInt = _
          rw [rS (by decide +kernel)]
          exact k1
        · show ((mx_uI (rz_c hc) (.inr (S, 2)) k (f93 (rz_c hc))).2.1 (.inr (S, 0)) 6).toInt = _
          rw [rS (by decide +kernel)]
          exact k3
        · show (mx_uI (rz_c hc) (.inr (S, 2)) k (f93 (rz_c hc))).2.1 (.inr (S, 1)) c = _
          rw [rS (by decide +kernel)]
          exact k5 c q
        · obtain ⟨c1, c2, c3, c4, c5⟩ := k6 c q
          have dn : ¬ f93 (rz_c hc) = 0 := i_ne dv k_0 (by omega)
          show (mx_uI (rz_c hc) (.inr (S, 2)) k (f93 (rz_c hc))).2.1 (.inr (S, 2)) c = (mx_uI (rz_r (rz_r (rz_r hr))) (.inl 108) (6 * S + k) (f93 (rz_c hc))).2.1 (.inl 108) (6 * S + c) ∧ (mx_uI (rz_c hc) (.inr (S, 2)) k (f93 (rz_c hc))).2.1 (.inr (S, 3)) c = (mx_uI (rz_r (rz_r (rz_r hr))) (.inl 108) (6 * S + k) (f93 (rz_c hc))).2.1 (.inl 109) (6 * S + c) ∧ (mx_uI (rz_c hc) (.inr (S, 2)) k (f93 (rz_c hc))).2.1 (.inr (S, 4)) c = hr.2.1 (.inl 110) (6 * S + c) ∧ ((mx_uI (rz_r (rz_r (rz_r hr))) (.inl 121) k 1).2.1 (.inl 121) c = 0 ↔ (mx_uI (rz_c hc) (.inr (S, 2)) k (f93 (rz_c hc))).2.1 (.inr (S, 2)) c = 0) ∧ ((mx_uI (rz_r (rz_r (rz_r hr))) (.inl 121) k 1).2.1 (.inl 122) c = 0 ↔ (mx_uI (rz_c hc) (.inr (S, 2)) k (f93 (rz_c hc))).2.1 (.inr (S, 3)) c = 0)
          rw [rS (show 3 ≠ 2 by decide +kernel), rS (show 4 ≠ 2 by decide +kernel)]
          by_cases e : c = k
          · subst e
            rw [rI_s, rI_s, rI_s]
            exact ⟨rfl, c2, c3, ⟨fun q => absurd q n10, fun q => absurd q dn⟩, c5⟩
          · rw [rI_i e, rI_i (show 6 * S + c ≠ 6 * S + k by omega), rI_i e]
            exact ⟨c1, c2, c3, c4, c5⟩
      · rw [if_neg (fun q => q d0)] at Cq
        rw [Cq, d8]
        have hF2 : rD (rz_r (rz_r hr)) (.inl 105) 18 = -1 := hF
        have e9 : ¬ (f186 (rz_r (rz_r hr))).2.1 (.inl 105) 18 < 0 := by
          rw [G186 hF2, rI_s]
          exact i_nlt t'.2.2.2.2.2.1 k_0 (by omega)
        show rz_O S L C p hc hr _ (if (f186 (rz_r (rz_r hr))).2.1 (.inl 105) 18 < 0 then _ else f186 (rz_r (rz_r hr)))
        rw [if_neg e9]
        exact rz_bad (C := C) t' hF2 (rz_FC.refl) (rz_FRr (rz_FRr rz_FR.refl)) rfl (rz_FCc rz_FC.refl)
    · rw [if_neg (fun q => z (kk.2.2.2.1.mp q))]
      rw [if_neg z] at Cq
      rw [Cq]
      exact rz_bad (C := C) t hF' rz_FC.refl (rz_FRr rz_FR.refl) rfl rz_FC.refl
  · rw [e2, if_pos (show (-1 : Int32) < 0 by decide +kernel), G121, if_pos (show (-1 : Int32) < 0 by decide +kernel)]
    rw [e1, if_pos (show (-1 : Int32) < 0 by decide +kernel)] at Cq
    rw [Cq]
    exact rz_bad (C := C) t hF' rz_FC.refl (rz_FRr rz_FR.refl) rfl rz_FC.refl
/-- 119: a weight -/
theorem rz_wgt (t : rz_T hc (rz_r hr) L p) (K : rz_C hc (rz_r hr) S C n) (hF : rD hr (.inl 105) 18 = -1) (hS : rD hr (.inl 105) 1 = S) (S11 : S ≤ 12) : rz_O S L C p hc hr (f91 S (.inr (S, 3)) hc) (g191_34 119 hr) := by
  have hF' : rD (rz_r hr) (.inl 105) 18 = -1 := hF
  have hS' : rD (rz_r hr) (.inl 105) 1 = S := hS
  obtain ⟨C6, k1, k2, k3, k4, k5, k6, kP⟩ := id K
  rw [G34, if_pos (show (119 : Int32) ≠ 112 by decide +kernel), if_pos (show (119 : Int32) ≠ 115 by decide +kernel), if_neg (show ¬ (119 : Int32) ≠ 119 from fun q => q rfl)]
  show rz_O S L C p hc hr (f91 S (.inr (S, 3)) hc) (if f189 (rz_r hr) < 0 then g191_121 119 (f189 (rz_r hr)) (rz_r hr) else if (rz_r hr).2.1 (.inl 122) (Int32.toNatClampNeg (f189 (rz_r hr))) = 0 then g191_121 119 (f189 (rz_r hr)) (rz_r hr) else g191_117 119 (f189 (rz_r hr)) (rz_r hr))
  have Cq : f91 S (.inr (S, 3)) hc = if f94 S hc < 0 then (0, hc) else if hc.2.1 (.inr (S, 3)) (Int32.toNatClampNeg (f94 S hc)) = 0 then (if f93 (rz_c hc) ≠ 0 then (1, rz_c (mx_uI (rz_c hc) (.inr (S, 3)) (Int32.toNatClampNeg (f94 S hc)) (f93 (rz_c hc)))) else (0, rz_c hc)) else (0, hc) := f91_eq S (.inr (S, 3)) hc
  rcases rz_let t C6 (by omega) k1 k2 hS' with ⟨x, k, hk, pl, hx, e1, e2⟩ | ⟨e1, e2⟩
  · have w := w6 hS hx (by omega) (by omega)
    have kk := k6 k (by omega)
    have t' := rz_adv t pl
    rw [e2, if_neg (i_nlt hx k_0 (by omega)), i_cl hx, G121, if_neg (i_nlt hx k_0 (by omega)), if_pos (show (119 : Int32) ≠ 104 by decide +kernel), G117]
    rw [e1, if_neg (i_nlt hx k_0 (by omega)), i_cl hx] at Cq
    by_cases z : hc.2.1 (.inr (S, 3)) k = 0
    · rw [if_pos (kk.2.2.2.2.mpr z)]
      rw [if_pos z] at Cq
      rcases rz_dig t' with ⟨d, d1, d9, pl', dv, d8, -⟩ | ⟨d0, -, d8⟩
      · rw [if_pos (i_ne dv k_0 (by omega))] at Cq
        rw [Cq, d8]
        have w' : (6 * (rz_r hr).2.1 (.inl 105) 1 + x).toInt = ((6 * S + k : Nat) : Int) := w
        show rz_O S L C p hc hr _ (if (rz_r (rz_r (rz_r hr))).2.1 (.inl 105) 18 < 0 then _ else _)
        rw [if_pos (i_lt (show ((rz_r (rz_r (rz_r hr))).2.1 (.inl 105) 18).toInt = -1 from hF) k_0 (by omega)), if_pos (show (119 : Int32) ≠ 115 by decide +kernel), i_cl hx, i_cl w']
        refine ⟨rz_FCc ((rz_FCc rz_FC.refl).s (by decide +kernel)), ((rz_FRr (rz_FRr (rz_FRr rz_FR.refl))).u (Or.inr (Or.inr (Or.inl ⟨by omega, by omega, by omega⟩)))).u (by unfold rz_w; omega), Or.inl ⟨n10, hF, p + 2, n, by omega, rz_adv t' pl', ?_⟩⟩
        refine ⟨C6, ?_, k2, ?_, k4, fun c q => ?_, fun c q => ?_, rz_P.x (rS (by decide +kernel)) (rS (by decide +kernel)) (rS (by decide +kernel)) (rS (by decide +kernel)) rfl rfl rfl rfl rfl kP⟩
        · show ((mx_uI (rz_c hc) (.inr (S, 3)) k (f93 (rz_c hc))).2.1 (.inr (S, 0)) 0).toInt = _
          rw [rS (by decide +kernel)]
          exact k1
        · show ((mx_uI (rz_c hc) (.inr (S, 3)) k (f93 (rz_c hc))).2.1 (.inr (S, 0)) 6).toInt = _
          rw [rS (by decide +kernel)]
          exact k3
        · show (mx_uI (rz_c hc) (.inr (S, 3)) k (f93 (rz_c hc))).2.1 (.inr (S, 1)) c = _
          rw [rS (by decide +kernel)]
          exact k5 c q
        · obtain ⟨c1, c2, c3, c4, c5⟩ := k6 c q
          have dn : ¬ f93 (rz_c hc) = 0 := i_ne dv k_0 (by omega)
          show (mx_uI (rz_c hc) (.inr (S, 3)) k (f93 (rz_c hc))).2.1 (.inr (S, 2)) c = (mx_uI (rz_r (rz_r (rz_r hr))) (.inl 109) (6 * S + k) (f93 (rz_c hc))).2.1 (.inl 108) (6 * S + c) ∧ (mx_uI (rz_c hc) (.inr (S, 3)) k (f93 (rz_c hc))).2.1 (.inr (S, 3)) c = (mx_uI (rz_r (rz_r (rz_r hr))) (.inl 109) (6 * S + k) (f93 (rz_c hc))).2.1 (.inl 109) (6 * S + c) ∧ (mx_uI (rz_c hc) (.inr (S, 3)) k (f93 (rz_c hc))).2.1 (.inr (S, 4)) c = hr.2.1 (.inl 110) (6 * S + c) ∧ ((mx_uI (rz_r (rz_r (rz_r hr))) (.inl 122) k 1).2.1 (.inl 121) c = 0 ↔ (mx_uI (rz_c hc) (.inr (S, 3)) k (f93 (rz_c hc))).2.1 (.inr (S, 2)) c = 0) ∧ ((mx_uI (rz_r (rz_r (rz_r hr))) (.inl 122) k 1).2.1 (.inl 122) c = 0 ↔ (mx_uI (rz_c hc) (.inr (S, 3)) k (f93 (rz_c hc))).2.1 (.inr (S, 3)) c = 0)
          rw [rS (show 2 ≠ 3 by decide +kernel), rS (show 4 ≠ 3 by decide +kernel)]
          by_cases e : c = k
          · subst e
            rw [rI_s, rI_s, rI_s]
            exact ⟨c1, rfl, c3, c4, ⟨fun q => absurd q n10, fun q => absurd q dn⟩⟩
          · rw [rI_i (b := .inr (S, 3)) e, rI_i (b := .inl 109) (show 6 * S + c ≠ 6 * S + k by omega), rI_i (b := .inl 122) e]
            exact ⟨c1, c2, c3, c4, c5⟩
      · rw [if_neg (fun q => q d0)] at Cq
        rw [Cq, d8]
        have hF2 : rD (rz_r (rz_r hr)) (.inl 105) 18 = -1 := hF
        have e9 : ¬ (f186 (rz_r (rz_r hr))).2.1 (.inl 105) 18 < 0 := by
          rw [G186 hF2, rI_s]
          exact i_nlt t'.2.2.2.2.2.1 k_0 (by omega)
        show rz_O S L C p hc hr _ (if (f186 (rz_r (rz_r hr))).2.1 (.inl 105) 18 < 0 then _ else f186 (rz_r (rz_r hr)))
        rw [if_neg e9]
        exact rz_bad (C := C) t' hF2 (rz_FC.refl) (rz_FRr (rz_FRr rz_FR.refl)) rfl (rz_FCc rz_FC.refl)
    · rw [if_neg (fun q => z (kk.2.2.2.2.mp q))]
      rw [if_neg z] at Cq
      rw [Cq]
      exact rz_bad (C := C) t hF' rz_FC.refl (rz_FRr rz_FR.refl) rfl rz_FC.refl
  · rw [e2, if_pos (show (-1 : Int32) < 0 by decide +kernel), G121, if_pos (show (-1 : Int32) < 0 by decide +kernel)]
    rw [e1, if_pos (show (-1 : Int32) < 0 by decide +kernel)] at Cq
    rw [Cq]
    exact rz_bad (C := C) t hF' rz_FC.refl (rz_FRr rz_FR.refl) rfl rz_FC.refl
end RP
/-! ===== a piece, on both sides ===== -/
section RQ
variable {hc hr h : mx_H} {L p S C n : Nat}
/-- pieceBetween -/
def k_mn (a b : Int32) : Int32 := if b < a then b else a
def k_mx (a b : Int32) : Int32 := if a < b then b else a
theorem k61g {a b : Int32} (hn : rD h (.inr (S, 0)) 6 = n) (n15 : n ≤ 15) : ∀ (j k : Nat) (x : Int32), k + j = n → x.toInt = k →
    (∃ q, k ≤ q ∧ q < n ∧ h.2.1 (.inr (S, 5)) q = k_mn a b ∧ h.2.1 (.inr (S, 6)) q = k_mx a b ∧ (g61_2 S a b x h).toInt = q) ∨ ((∀ q, k ≤ q → q < n → ¬ (h.2.1 (.inr (S, 5)) q = k_mn a b ∧ h.2.1 (.inr (S, 6)) q = k_mx a b)) ∧ g61_2 S a b x h = -1)
  | 0, k, x, e, hx => by
    refine Or.inr ⟨fun q q1 q2 => by omega, ?_⟩
    rw [g61_2_eq, if_pos (i_le hn hx (by omega))]
  | j + 1, k, x, e, hx => by
    have ih := k61g (a := a) (b := b) hn n15 j (k + 1) (x + 1) (by omega) (by rw [i_add hx k_1 (by omega) (by omega)]; omega)
    rw [g61_2_eq, if_neg (i_nle hn hx (by omega)), i_cl hx]
    have nxt : ¬ (h.2.1 (.inr (S, 5)) k = k_mn a b ∧ h.2.1 (.inr (S, 6)) k = k_mx a b) → (∃ q, k ≤ q ∧ q < n ∧ h.2.1 (.inr (S, 5)) q = k_mn a b ∧ h.2.1 (.inr (S, 6)) q = k_mx a b ∧ (g61_2 S a b (x + 1) h).toInt = q) ∨ ((∀ q, k ≤ q → q < n → ¬ (h.2.1 (.inr (S, 5)) q = k_mn a b ∧ h.2.1 (.inr (S, 6)) q = k_mx a b)) ∧ g61_2 S a b (x + 1) h = -1) := fun z => by
      rcases ih with ⟨q, q1, q2, q3⟩ | ⟨q1, q2⟩
      · exact Or.inl ⟨q, by omega, q2, q3⟩
      · refine Or.inr ⟨fun q z1 z2 => ?_, q2⟩
        by_cases e2 : q = k
        · subst e2
          exact z
        · exact q1 q (by omega) z2
    by_cases c1 : h.2.1 (.inr (S, 5)) k = k_mn a b
    · rw [if_neg (show ¬ h.2.1 (.inr (S, 5)) k ≠ (if b < a then b else a) from fun q => q c1)]
      by_cases c2 : h.2.1 (.inr (S, 6)) k = k_mx a b
      · rw [if_neg (show ¬ h.2.1 (.inr (S, 6)) k ≠ (if a < b then b else a) from fun q => q c2)]
        exact Or.inl ⟨k, Nat.le_refl _, by omega, c1, c2, hx⟩
      · rw [if_pos (show h.2.1 (.inr (S, 6)) k ≠ (if a < b then b else a) from c2)]
        exact nxt (fun q => c2 q.2)
    · rw [if_pos (show h.2.1 (.inr (S, 5)) k ≠ (if b < a then b else a) from c1)]
      exact nxt (fun q => c1 q.1)
theorem k61 {a b : Int32} (hn : rD h (.inr (S, 0)) 6 = n) (n15 : n ≤ 15) : (∃ q, q < n ∧ h.2.1 (.inr (S, 5)) q = k_mn a b ∧ h.2.1 (.inr (S, 6)) q = k_mx a b ∧ (f61 S a b h).toInt = q) ∨ ((∀ q, q < n → ¬ (h.2.1 (.inr (S, 5)) q = k_mn a b ∧ h.2.1 (.inr (S, 6)) q = k_mx a b)) ∧ f61 S a b h = -1) := by
  rw [f61_eq]
  rcases k61g (a := a) (b := b) hn n15 n 0 0 (by omega) rfl with ⟨q, q1, q2⟩ | ⟨q1, q2⟩
  · exact Or.inl ⟨q, q2⟩
  · exact Or.inr ⟨fun q z => q1 q (Nat.zero_le _) z, q2⟩
theorem k_mn_v {x y : Int32} {a b : Nat} (hx : x.toInt = (a : Int)) (hy : y.toInt = (b : Int)) : (k_mn x y).toInt = ((min a b : Nat) : Int) := by
  unfold k_mn
  by_cases c : b < a
  · rw [if_pos (i_lt hy hx (by omega)), hy]
    omega
  · rw [if_neg (i_nlt hy hx (by omega)), hx]
    omega
theorem k_mx_v {x y : Int32} {a b : Nat} (hx : x.toInt = (a : Int)) (hy : y.toInt = (b : Int)) : (k_mx x y).toInt = ((max a b : Nat) : Int) := by
  unfold k_mx
  by_cases c : a < b
  · rw [if_pos (i_lt hx hy (by omega)), hy]
    omega
  · rw [if_neg (i_nlt hx hy (by omega)), hx]
    omega
/-- addPiece -/
def k_ap (h : mx_H) (S n : Nat) (a b d : Int32) : mx_H := mx_uI (mx_uI (mx_uI (mx_uI (mx_uI h (.inr (S, 5)) n (k_mn a b)) (.inr (S, 6)) n (k_mx a b)) (.inr (S, 7)) n d) (.inr (S, 8)) n 0) (.inr (S, 0)) 6 (h.2.1 (.inr (S, 0)) 6 + 1)
theorem k63 {a b d : Int32} (hn : rD h (.inr (S, 0)) 6 = n) (n15 : n < 15) : f63 S a b d h = k_ap h S n a b d := by
  rw [f63_eq, if_pos (i_lt hn k_15 (by omega)), rS (show 0 ≠ 8 by decide +kernel), rS (show 0 ≠ 7 by decide +kernel), rS (show 0 ≠ 6 by decide +kernel), rS (show 0 ≠ 5 by decide +kernel), i_cl hn]
  rfl
/-- setPiece -/
def k_p (h : mx_H) (q : Nat) (bo st cr : Int32) : mx_H := mx_uI (mx_uI (mx_uI h (.inl 113) q (bo + 1)) (.inl 111) q st) (.inl 112) q cr
theorem k181 {s x y bo st cr : Int32} {a b : Nat} (hs : s.toInt = (S : Int)) (hx : x.toInt = (a : Int)) (hy : y.toInt = (b : Int)) (S12 : S ≤ 12) (ha : a < 6) (hb : b < 6) : f181 s x y bo st cr h = k_p (k_p h (36 * S + 6 * a + b) bo st cr) (36 * S + 6 * b + a) bo st cr := by
  rw [f181_eq, g181_3_eq, if_neg (show ¬ (2 : Int32) ≤ 0 by decide +kernel), if_neg (show ¬ (0 : Int32) ≠ 0 from fun q => q rfl)]
  show g181_3 s x y bo st cr (0 + 1) (mx_uI (mx_uI (mx_uI h (.inl 113) (Int32.toNatClampNeg (f179 s x y)) (bo + 1)) (.inl 111) (Int32.toNatClampNeg (f179 s x y)) st) (.inl 112) (Int32.toNatClampNeg (f179 s x y)) cr) = _
  rw [i_cl (w179 hs hx hy S12 ha hb), g181_3_eq, if_neg (show ¬ (2 : Int32) ≤ 0 + 1 by decide +kernel), if_pos (show (0 + 1 : Int32) ≠ 0 by decide +kernel)]
  show g181_3 s x y bo st cr (0 + 1 + 1) (mx_uI (mx_uI (mx_uI _ (.inl 113) (Int32.toNatClampNeg (f179 s y x)) (bo + 1)) (.inl 111) (Int32.toNatClampNeg (f179 s y x)) st) (.inl 112) (Int32.toNatClampNeg (f179 s y x)) cr) = _
  rw [i_cl (w179 hs hy hx S12 hb ha), g181_3_eq, if_pos (show (2 : Int32) ≤ 0 + 1 + 1 by decide +kernel)]
  rfl
theorem k_p3 {q q2 : Nat} {bo st cr : Int32} : (k_p h q bo st cr).2.1 (.inl 113) q2 = if q2 = q then bo + 1 else h.2.1 (.inl 113) q2 := by
  by_cases e : q2 = q
  · rw [if_pos e]
    show (mx_uI h (.inl 113) q (bo + 1)).2.1 (.inl 113) q2 = _
    exact rI_c rfl e
  · rw [if_neg e]
    show (mx_uI h (.inl 113) q (bo + 1)).2.1 (.inl 113) q2 = _
    exact rI_i e
theorem k_p1 {q q2 : Nat} {bo st cr : Int32} : (k_p h q bo st cr).2.1 (.inl 111) q2 = if q2 = q then st else h.2.1 (.inl 111) q2 := by
  by_cases e : q2 = q
  · rw [if_pos e]
    show (mx_uI (mx_uI h (.inl 113) q (bo + 1)) (.inl 111) q st).2.1 (.inl 111) q2 = _
    exact rI_c rfl e
  · rw [if_neg e]
    show (mx_uI (mx_uI h (.inl 113) q (bo + 1)) (.inl 111) q st).2.1 (.inl 111) q2 = _
    exact rI_i e
theorem k_p2 {q q2 : Nat} {bo st cr : Int32} : (k_p h q bo st cr).2.1 (.inl 112) q2 = if q2 = q then cr else h.2.1 (.inl 112) q2 := by
  by_cases e : q2 = q
  · rw [if_pos e]
    exact rI_c rfl e
  · rw [if_neg e]
    exact rI_i e
theorem k_po {q k i : Nat} {bo st cr : Int32} (h1 : k ≠ 111) (h2 : k ≠ 112) (h3 : k ≠ 113) : (k_p h q bo st cr).2.1 (.inl k) i = h.2.1 (.inl k) i := by
  unfold k_p
  rw [rN h2, rN h1, rN h3]
end RQ
/-! ===== a piece is read alike ===== -/
section RV
variable {hc hr h : mx_H} {L p S C n k : Nat} {a b d : Int32}
theorem ka5 : (k_ap h S n a b d).2.1 (.inr (S, 5)) k = if k = n then k_mn a b else h.2.1 (.inr (S, 5)) k := by
  unfold k_ap
  rw [rS (show 5 ≠ 0 by decide +kernel), rS (show 5 ≠ 8 by decide +kernel), rS (show 5 ≠ 7 by decide +kernel), rS (show 5 ≠ 6 by decide +kernel)]
  by_cases e : k = n
  · rw [if_pos e, rI_c rfl e]
  · rw [if_neg e, rI_i e]
theorem ka6 : (k_ap h S n a b d).2.1 (.inr (S, 6)) k = if k = n then k_mx a b else h.2.1 (.inr (S, 6)) k := by
  unfold k_ap
  rw [rS (show 6 ≠ 0 by decide +kernel), rS (show 6 ≠ 8 by decide +kernel), rS (show 6 ≠ 7 by decide +kernel)]
  by_cases e : k = n
  · rw [if_pos e, rI_c rfl e]
  · rw [if_neg e, rI_i e, rS (show 6 ≠ 5 by decide +kernel)]
theorem ka7 : (k_ap h S n a b d).2.1 (.inr (S, 7)) k = if k = n then d else h.2.1 (.inr (S, 7)) k := by
  unfold k_ap
  rw [rS (show 7 ≠ 0 by decide +kernel), rS (show 7 ≠ 8 by decide +kernel)]
  by_cases e : k = n
  · rw [if_pos e, rI_c rfl e]
  · rw [if_neg e, rI_i e, rS (show 7 ≠ 6 by decide +kernel), rS (show 7 ≠ 5 by decide +kernel)]
theorem ka8 : (k_ap h S n a b d).2.1 (.inr (S, 8)) k = if k = n then 0 else h.2.1 (.inr (S, 8)) k := by
  unfold k_ap
  rw [rS (show 8 ≠ 0 by decide +kernel)]
  by_cases e : k = n
  · rw [if_pos e, rI_c rfl e]
  · rw [if_neg e, rI_i e, rS (show 8 ≠ 7 by decide +kernel), rS (show 8 ≠ 6 by decide +kernel), rS (show 8 ≠ 5 by decide +kernel)]
theorem ka0 : (k_ap h S n a b d).2.1 (.inr (S, 0)) k = if k = 6 then h.2.1 (.inr (S, 0)) 6 + 1 else h.2.1 (.inr (S, 0)) k := by
  unfold k_ap
  by_cases e : k = 6
  · rw [if_pos e, rI_c rfl e]
  · rw [if_neg e, rI_i e, rS (show 0 ≠ 8 by decide +kernel), rS (show 0 ≠ 7 by decide +kernel), rS (show 0 ≠ 6 by decide +kernel), rS (show 0 ≠ 5 by decide +kernel)]
theorem kao {o : Nat} (h0 : o ≠ 0) (h5 : o ≠ 5) (h6 : o ≠ 6) (h7 : o ≠ 7) (h8 : o ≠ 8) : (k_ap h S n a b d).2.1 (.inr (S, o)) = h.2.1 (.inr (S, o)) := by
  unfold k_ap
  rw [rS h0, rS h8, rS h7, rS h6, rS h5]
theorem kal {q i : Nat} : (k_ap h S n a b d).2.1 (.inl q) i = h.2.1 (.inl q) i := rfl
theorem kaF {h0 : mx_H} (f : rz_FC S h0 h) : rz_FC S h0 (k_ap h S n a b d) := ((((f.s (by decide +kernel)).s (by decide +kernel)).s (by decide +kernel)).s (by decide +kernel)).s (by decide +kernel)
/-- the list of what was read -/
def k_q (g : mx_H) (x y : Int32) : mx_H := mx_uI (mx_uI (mx_uI g (.inl 119) (Int32.toNatClampNeg (g.2.1 (.inl 105) 19)) x) (.inl 120) (Int32.toNatClampNeg (g.2.1 (.inl 105) 19)) y) (.inl 105) 19 (g.2.1 (.inl 105) 19 + 1)
theorem R190 (g : mx_H) : f190 g = if 0 ≤ f189 g then (if f189 (rz_r g) < 0 then f186 (rz_r g) else if f189 (rz_r g) = f189 g then f186 (rz_r g) else if f180 (g.2.1 (.inl 105) 1) (f189 g) (f189 (rz_r g)) (rz_r g) = 0 then x_let (f188 (rz_r (rz_r g))) (fun x16 h15 => if h15.2.1 (.inl 105) 18 < 0 then k_q (f181 (h15.2.1 (.inl 105) 1) (f189 g) (f189 (rz_r g)) 0 x16 0 h15) (f189 g) (f189 (rz_r g)) else h15) else f186 (rz_r g)) else f186 g := f190_eq g
theorem C89 (S : Nat) (h : mx_H) : f89 S h = if 0 ≤ f94 S h then (if f94 S (rz_c h) < 0 then (0, rz_c h) else if f94 S (rz_c h) = f94 S h then (0, rz_c h) else if f61 S (f94 S h) (f94 S (rz_c h)) (rz_c h) < 0 then (if f93 (rz_c (rz_c h)) ≠ 0 then (1, rz_c (f63 S (f94 S h) (f94 S (rz_c h)) (f93 (rz_c (rz_c h))) (rz_c (rz_c h)))) else (0, rz_c (rz_c h))) else (0, rz_c h)) else (0, h) := f89_eq S h
theorem rz_kb {x y : Nat} (q : rz_k hc hr S C k x y) : hr.2.1 (.inl 113) (36 * S + 6 * x + y) = 1 ∧ hr.2.1 (.inl 113) (36 * S + 6 * y + x) = 1 := ⟨q.2.2.2.2.2.2.2.1, q.2.2.2.2.2.2.2.2.1⟩
/-- a pair is there on both sides, or on none -/
theorem rz_has {x y : Int32} {u v : Nat} (K : rz_C hc hr S C n) (hS : rD hr (.inl 105) 1 = S) (S11 : S ≤ 12) (hx : x.toInt = (u : Int)) (hy : y.toInt = (v : Int)) (hu : u < C) (hv : v < C) (hn : u ≠ v) :
    (¬ f61 S x y hc < 0 ∧ ¬ f180 (hr.2.1 (.inl 105) 1) x y hr = 0) ∨ (f61 S x y hc < 0 ∧ f180 (hr.2.1 (.inl 105) 1) x y hr = 0 ∧ hr.2.1 (.inl 113) (36 * S + 6 * u + v) = 0 ∧ hr.2.1 (.inl 113) (36 * S + 6 * v + u) = 0 ∧ n < 15) := by
  obtain ⟨C6, k1, k2, k3, k4, k5, k6, kP1, kP2, kP3, kP4⟩ := K
  have n15 : n ≤ 15 := by
    rw [kP3]
    exact sd_C_15 _
  have w := w179 hS hx hy (by omega) (by omega) (by omega)
  rcases kP2 u v (by omega) (by omega) with z | ⟨q, q1, q2⟩
  · have z2 : hr.2.1 (.inl 113) (36 * S + 6 * v + u) = 0 := by
      rcases kP2 v u (by omega) (by omega) with z2 | ⟨q, q1, q2⟩
      · exact z2
      · exfalso
        rcases q2 with q2 | q2
        · rw [(rz_kb q2).2] at z
          exact n10 z
        · rw [(rz_kb q2).1] at z
          exact n10 z
    refine Or.inr ⟨?_, ?_, z, z2, ?_⟩
    · rcases k61 (a := x) (b := y) k3 n15 with ⟨q, q1, q2, q3, -⟩ | ⟨-, q⟩
      · exfalso
        obtain ⟨u', v', Q⟩ := kP1 q q1
        obtain ⟨o1, o2, o3, -, -, o6, o7, o8, o9, -⟩ := Q
        unfold rD at o6 o7
        rw [q2, k_mn_v hx hy] at o6
        rw [q3, k_mx_v hx hy] at o7
        have e : (u' = u ∧ v' = v) ∨ (u' = v ∧ v' = u) := by omega
        rcases e with ⟨rfl, rfl⟩ | ⟨rfl, rfl⟩
        · rw [z] at o8
          exact absurd o8 (by decide +kernel)
        · rw [z] at o9
          exact absurd o9 (by decide +kernel)
      · rw [q]
        decide
    · rw [f180_eq, i_cl w, z]
      rfl
    · obtain ⟨c, hc1, hc2⟩ := sd_pair (show u < 6 by omega) (show v < 6 by omega) hn
      have : sd_C sd_CL (rz_g hr S) ≤ 14 := by
        refine sd_C_14 hc1 (fun q => ?_)
        have q' := of_decide_eq_true q
        rcases hc2 with rfl | rfl
        · exact q' (by rw [← Nat.add_assoc]; exact z)
        · exact q' (by rw [← Nat.add_assoc]; exact z2)
      omega
  · have z : hr.2.1 (.inl 113) (36 * S + 6 * u + v) = 1 := by
      rcases q2 with q2 | q2
      · exact (rz_kb q2).1
      · exact (rz_kb q2).2
    refine Or.inl ⟨?_, ?_⟩
    · rcases k61 (a := x) (b := y) k3 n15 with ⟨q, q1, -, -, q3⟩ | ⟨q3, -⟩
      · exact i_nlt q3 k_0 (by omega)
      · exfalso
        refine q3 q q1 ⟨?_, ?_⟩
        · rcases q2 with q2 | q2
          · exact i_eq q2.2.2.2.2.2.1 (k_mn_v hx hy) rfl
          · exact i_eq q2.2.2.2.2.2.1 (k_mn_v hx hy) (by omega)
        · rcases q2 with q2 | q2
          · exact i_eq q2.2.2.2.2.2.2.1 (k_mx_v hx hy) rfl
          · exact i_eq q2.2.2.2.2.2.2.1 (k_mx_v hx hy) (by omega)
    · rw [f180_eq, i_cl w, z]
      decide
end RV
/-! ===== a part, corners, the whole text: read alike ===== -/
section RW
variable {hc hr h : mx_H} {L p S C n k : Nat}
/-! numbers, apart from the heaps -/
theorem rzn_c {c c0 u v : Nat} (hu : u < 6) (hv : v < 6) (e0 : c0 = 6 * u + v ∨ c0 = 6 * v + u) (l1 : c / 6 < 6 ∧ c / 6 < c % 6) (l2 : c0 / 6 < 6 ∧ c0 / 6 < c0 % 6) (q : c = 6 * v + u ∨ c = 6 * u + v) : c = c0 := by
  rcases q with q | q
  · have d1 : c / 6 = v := by omega
    have d2 : c % 6 = u := by omega
    rcases e0 with e0 | e0
    · exfalso
      have d3 : c0 / 6 = u := by omega
      have d4 : c0 % 6 = v := by omega
      omega
    · omega
  · have d1 : c / 6 = u := by omega
    have d2 : c % 6 = v := by omega
    rcases e0 with e0 | e0
    · omega
    · exfalso
      have d3 : c0 / 6 = v := by omega
      have d4 : c0 % 6 = u := by omega
      omega
theorem rzn_m {u v : Nat} (hn : u ≠ v) : ¬ 36 * S + 6 * u + v = 36 * S + 6 * v + u := by omega
theorem rzn_e {u v u' v' : Nat} (hu : u < 6) (hv : v < 6) (hu' : u' < 6) (hv' : v' < 6) (e : 36 * S + 6 * u' + v' = 36 * S + 6 * u + v) : u' = u ∧ v' = v := by omega
theorem rzn_o {u v c0 : Nat} (e0 : c0 = 6 * u + v ∨ c0 = 6 * v + u) : c0 = 6 * v + u ∨ c0 = 6 * u + v := e0.symm
/-- a piece more: what both sides hold then -/
theorem rz_new {g : mx_H} {x y d : Int32} {u v : Nat} (K : rz_C hc hr S C n) (hx : x.toInt = (u : Int)) (hy : y.toInt = (v : Int)) (hu : u < C) (hv : v < C) (hn : u ≠ v) (z1 : hr.2.1 (.inl 113) (36 * S + 6 * u + v) = 0) (z2 : hr.2.1 (.inl 113) (36 * S + 6 * v + u) = 0) (n15 : n < 15)
    (hg : g = k_q (k_p (k_p hr (36 * S + 6 * u + v) 0 d 0) (36 * S + 6 * v + u) 0 d 0) x y) : rz_C (k_ap hc S n x y d) g S C (n + 1) := by
  obtain ⟨C6, k1, k2, k3, k4, k5, k6, kP1, kP2, kP3, kP4⟩ := K
  have u6 : u < 6 := Nat.lt_of_lt_of_le hu C6
  have v6 : v < 6 := Nat.lt_of_lt_of_le hv C6
  subst hg
  have e19 : (k_p (k_p hr (36 * S + 6 * u + v) 0 d 0) (36 * S + 6 * v + u) 0 d 0).2.1 (.inl 105) 19 = hr.2.1 (.inl 105) 19 := rfl
  have cl : Int32.toNatClampNeg (hr.2.1 (.inl 105) 19) = n := i_cl k4
  have hG : k_q (k_p (k_p hr (36 * S + 6 * u + v) 0 d 0) (36 * S + 6 * v + u) 0 d 0) x y = mx_uI (mx_uI (mx_uI (k_p (k_p hr (36 * S + 6 * u + v) 0 d 0) (36 * S + 6 * v + u) 0 d 0) (.inl 119) n x) (.inl 120) n y) (.inl 105) 19 (hr.2.1 (.inl 105) 19 + 1) := by
    unfold k_q
    rw [e19, cl]
  generalize hgg : k_q (k_p (k_p hr (36 * S + 6 * u + v) 0 d 0) (36 * S + 6 * v + u) 0 d 0) x y = g at hG ⊢
  have g113 : ∀ i, g.2.1 (.inl 113) i = if i = 36 * S + 6 * v + u then 1 else if i = 36 * S + 6 * u + v then 1 else hr.2.1 (.inl 113) i := fun i => by
    rw [hG]
    show (k_p (k_p hr (36 * S + 6 * u + v) 0 d 0) (36 * S + 6 * v + u) 0 d 0).2.1 (.inl 113) i = _
    rw [k_p3, k_p3]
    rfl
  have g111 : ∀ i, g.2.1 (.inl 111) i = if i = 36 * S + 6 * v + u then d else if i = 36 * S + 6 * u + v then d else hr.2.1 (.inl 111) i := fun i => by
    rw [hG]
    show (k_p (k_p hr (36 * S + 6 * u + v) 0 d 0) (36 * S + 6 * v + u) 0 d 0).2.1 (.inl 111) i = _
    rw [k_p1, k_p1]
  have g112 : ∀ i, g.2.1 (.inl 112) i = if i = 36 * S + 6 * v + u then 0 else if i = 36 * S + 6 * u + v then 0 else hr.2.1 (.inl 112) i := fun i => by
    rw [hG]
    show (k_p (k_p hr (36 * S + 6 * u + v) 0 d 0) (36 * S + 6 * v + u) 0 d 0).2.1 (.inl 112) i = _
    rw [k_p2, k_p2]
  have g119 : ∀ i, g.2.1 (.inl 119) i = if i = n then x else hr.2.1 (.inl 119) i := fun i => by
    rw [hG]
    show (mx_uI (k_p (k_p hr (36 * S + 6 * u + v) 0 d 0) (36 * S + 6 * v + u) 0 d 0) (.inl 119) n x).2.1 (.inl 119) i = _
    by_cases e : i = n
    · rw [if_pos e, rI_c rfl e]
    · rw [if_neg e, rI_i e]
      rfl
  have g120 : ∀ i, g.2.1 (.inl 120) i = if i = n then y else hr.2.1 (.inl 120) i := fun i => by
    rw [hG]
    show (mx_uI (mx_uI (k_p (k_p hr (36 * S + 6 * u + v) 0 d 0) (36 * S + 6 * v + u) 0 d 0) (.inl 119) n x) (.inl 120) n y).2.1 (.inl 120) i = _
    by_cases e : i = n
    · rw [if_pos e, rI_c rfl e]
    · rw [if_neg e, rI_i e]
      rfl
  have go : ∀ q i, q ≠ 111 → q ≠ 112 → q ≠ 113 → q ≠ 119 → q ≠ 120 → q ≠ 105 → g.2.1 (.inl q) i = hr.2.1 (.inl q) i := fun q i q1 q2 q3 q4 q5 q6 => by
    rw [hG, rN q6, rN q5, rN q4, k_po q1 q2 q3, k_po q1 q2 q3]
  have old : ∀ q u' v', q < n → rz_k hc hr S C q u' v' → rz_k (k_ap hc S n x y d) g S C q u' v' := fun q u' v' hq Q => by
    obtain ⟨o1, o2, o3, o4, o5, o6, o7, o8, o9, o10, o11, o12, o13, o14⟩ := Q
    have ne : ¬ q = n := Nat.ne_of_lt hq
    have m1 : ¬ 36 * S + 6 * u' + v' = 36 * S + 6 * v + u := fun e => by
      rw [e, z2] at o8
      exact absurd o8 (by decide +kernel)
    have m2 : ¬ 36 * S + 6 * u' + v' = 36 * S + 6 * u + v := fun e => by
      rw [e, z1] at o8
      exact absurd o8 (by decide +kernel)
    have m3 : ¬ 36 * S + 6 * v' + u' = 36 * S + 6 * v + u := fun e => by
      rw [e, z2] at o9
      exact absurd o9 (by decide +kernel)
    have m4 : ¬ 36 * S + 6 * v' + u' = 36 * S + 6 * u + v := fun e => by
      rw [e, z1] at o9
      exact absurd o9 (by decide +kernel)
    unfold rz_k
    exact ⟨o1, o2, o3, (congrArg Int32.toInt ((g119 q).trans (if_neg ne))).trans o4, (congrArg Int32.toInt ((g120 q).trans (if_neg ne))).trans o5, (congrArg Int32.toInt ((ka5 (h := hc) (S := S) (n := n) (a := x) (b := y) (d := d) (k := q)).trans (if_neg ne))).trans o6, (congrArg Int32.toInt ((ka6 (h := hc) (S := S) (n := n) (a := x) (b := y) (d := d) (k := q)).trans (if_neg ne))).trans o7,
      (g113 _).trans ((if_neg m1).trans ((if_neg m2).trans o8)), (g113 _).trans ((if_neg m3).trans ((if_neg m4).trans o9)), ((g111 _).trans ((if_neg m1).trans (if_neg m2))).trans (o10.trans ((ka7 (h := hc) (S := S) (n := n) (a := x) (b := y) (d := d) (k := q)).trans (if_neg ne)).symm), ((g111 _).trans ((if_neg m3).trans (if_neg m4))).trans (o11.trans ((ka7 (h := hc) (S := S) (n := n) (a := x) (b := y) (d := d) (k := q)).trans (if_neg ne)).symm),
      (g112 _).trans ((if_neg m1).trans ((if_neg m2).trans o12)), (g112 _).trans ((if_neg m3).trans ((if_neg m4).trans o13)), ((ka8 (h := hc) (S := S) (n := n) (a := x) (b := y) (d := d) (k := q)).trans (if_neg ne)).trans o14⟩
  have new : rz_k (k_ap hc S n x y d) g S C n u v := by
    have m1 : ¬ 36 * S + 6 * u + v = 36 * S + 6 * v + u := rzn_m hn
    unfold rz_k
    exact ⟨hu, hv, hn, (congrArg Int32.toInt ((g119 n).trans (if_pos rfl))).trans hx, (congrArg Int32.toInt ((g120 n).trans (if_pos rfl))).trans hy, (congrArg Int32.toInt ((ka5 (h := hc) (S := S) (n := n) (a := x) (b := y) (d := d) (k := n)).trans (if_pos rfl))).trans (k_mn_v hx hy), (congrArg Int32.toInt ((ka6 (h := hc) (S := S) (n := n) (a := x) (b := y) (d := d) (k := n)).trans (if_pos rfl))).trans (k_mx_v hx hy),
      (g113 _).trans ((if_neg m1).trans (if_pos rfl)), (g113 _).trans (if_pos rfl), ((g111 _).trans ((if_neg m1).trans (if_pos rfl))).trans ((ka7 (h := hc) (S := S) (n := n) (a := x) (b := y) (d := d) (k := n)).trans (if_pos rfl)).symm, ((g111 _).trans (if_pos rfl)).trans ((ka7 (h := hc) (S := S) (n := n) (a := x) (b := y) (d := d) (k := n)).trans (if_pos rfl)).symm, (g112 _).trans ((if_neg m1).trans (if_pos rfl)), (g112 _).trans (if_pos rfl), (ka8 (h := hc) (S := S) (n := n) (a := x) (b := y) (d := d) (k := n)).trans (if_pos rfl)⟩
  refine ⟨C6, ?_, ?_, ?_, ?_, fun c q => ?_, fun c q => ?_, fun q hq => ?_, fun u' v' hu' hv' => ?_, ?_, fun q q' u' v' hq hq' ne Q => ?_⟩
  · unfold rD
    rw [ka0, if_neg (by decide +kernel)]
    exact k1
  · unfold rD
    rw [go 106 S (by decide +kernel) (by decide +kernel) (by decide +kernel) (by decide +kernel) (by decide +kernel) (by decide +kernel)]
    exact k2
  · unfold rD
    rw [ka0, if_pos rfl, i_add k3 k_1 (by omega) (by omega)]
    omega
  · unfold rD
    rw [hG, rI_s, i_add k4 k_1 (by omega) (by omega)]
    omega
  · rw [kao (by decide +kernel) (by decide +kernel) (by decide +kernel) (by decide +kernel) (by decide +kernel), go 107 _ (by decide +kernel) (by decide +kernel) (by decide +kernel) (by decide +kernel) (by decide +kernel) (by decide +kernel)]
    exact k5 c q
  · rw [kao (o := 2) (by decide +kernel) (by decide +kernel) (by decide +kernel) (by decide +kernel) (by decide +kernel), kao (o := 3) (by decide +kernel) (by decide +kernel) (by decide +kernel) (by decide +kernel) (by decide +kernel), kao (o := 4) (by decide +kernel) (by decide +kernel) (by decide +kernel) (by decide +kernel) (by decide +kernel), go 108 _ (by decide +kernel) (by decide +kernel) (by decide +kernel) (by decide +kernel) (by decide +kernel) (by decide +kernel), go 109 _ (by decide +kernel) (by decide +kernel) (by decide +kernel) (by decide +kernel) (by decide +kernel) (by decide +kernel), go 110 _ (by decide +kernel) (by decide +kernel) (by decide +kernel) (by decide +kernel) (by decide +kernel) (by decide +kernel), go 121 _ (by decide +kernel) (by decide +kernel) (by decide +kernel) (by decide +kernel) (by decide +kernel) (by decide +kernel), go 122 _ (by decide +kernel) (by decide +kernel) (by decide +kernel) (by decide +kernel) (by decide +kernel) (by decide +kernel)]
    exact k6 c q
  · by_cases e : q = n
    · subst e
      exact ⟨u, v, new⟩
    · obtain ⟨u', v', Q⟩ := kP1 q (by omega)
      exact ⟨u', v', old q u' v' (by omega) Q⟩
  · rw [g113]
    by_cases e1 : 36 * S + 6 * u' + v' = 36 * S + 6 * v + u
    · refine Or.inr ⟨n, Nat.lt_succ_self n, Or.inr ?_⟩
      have : u' = v ∧ v' = u := rzn_e v6 u6 hu' hv' e1
      rw [this.1, this.2]
      exact new
    · rw [if_neg e1]
      by_cases e2 : 36 * S + 6 * u' + v' = 36 * S + 6 * u + v
      · refine Or.inr ⟨n, Nat.lt_succ_self n, Or.inl ?_⟩
        have : u' = u ∧ v' = v := rzn_e u6 v6 hu' hv' e2
        rw [this.1, this.2]
        exact new
      · rw [if_neg e2]
        rcases kP2 u' v' hu' hv' with z | ⟨q, q1, q2⟩
        · exact Or.inl z
        · refine Or.inr ⟨q, Nat.lt_succ_of_lt q1, ?_⟩
          rcases q2 with q2 | q2
          · exact Or.inl (old q _ _ q1 q2)
          · exact Or.inr (old q _ _ q1 q2)
  · rw [kP3]
    obtain ⟨c0, h0, e0⟩ := sd_pair u6 v6 hn
    have lt : ∀ c ∈ sd_CL, c / 6 < 6 ∧ c / 6 < c % 6 := by decide +kernel
    have gg : ∀ c, rz_g g S c = true ↔ (c = 6 * v + u ∨ c = 6 * u + v ∨ rz_g hr S c = true) := fun c => by
      unfold rz_g
      rw [decide_eq_true_iff, decide_eq_true_iff, g113]
      by_cases e1 : c = 6 * v + u
      · rw [if_pos (show 36 * S + c = 36 * S + 6 * v + u by rw [e1, Nat.add_assoc])]
        exact ⟨fun _ => Or.inl e1, fun _ => n10⟩
      · rw [if_neg (show ¬ 36 * S + c = 36 * S + 6 * v + u from fun t => e1 (Nat.add_left_cancel (t.trans (Nat.add_assoc _ _ _))))]
        by_cases e2 : c = 6 * u + v
        · rw [if_pos (show 36 * S + c = 36 * S + 6 * u + v by rw [e2, Nat.add_assoc])]
          exact ⟨fun _ => Or.inr (Or.inl e2), fun _ => n10⟩
        · rw [if_neg (show ¬ 36 * S + c = 36 * S + 6 * u + v from fun t => e2 (Nat.add_left_cancel (t.trans (Nat.add_assoc _ _ _))))]
          exact ⟨fun q => Or.inr (Or.inr q), fun q => q.elim (fun q => absurd q e1) (fun q => q.elim (fun q => absurd q e2) id)⟩
    have f0 : ¬ rz_g hr S c0 = true := fun q => by
      have q' := of_decide_eq_true q
      rcases e0 with rfl | rfl
      · exact q' (by rw [← Nat.add_assoc]; exact z1)
      · exact q' (by rw [← Nat.add_assoc]; exact z2)
    apply Nat.le_antisymm
    · exact sd_C_lt2 (fun c _ q => (gg c).mpr (Or.inr (Or.inr q))) h0 f0 ((gg c0).mpr (e0.elim (fun e => Or.inr (Or.inl e)) Or.inl))
    · refine sd_C_add1 (c := c0) sd_CLn (fun c hc1 e q => ?_)
      have l1 := lt c hc1
      have l2 := lt c0 h0
      rcases (gg c).mp q with q | q | q
      · exact absurd (rzn_c u6 v6 e0 l1 l2 (Or.inl q)) e
      · exact absurd (rzn_c u6 v6 e0 l1 l2 (Or.inr q)) e
      · exact q
  · -- no pair twice
    have back : ∀ q u' v', q < n → rz_k (k_ap hc S n x y d) g S C q u' v' → rz_k hc hr S C q u' v' := fun q u' v' hq Q => by
      obtain ⟨u2, v2, Q2⟩ := kP1 q hq
      have e1 := Q.2.2.2.1
      have e2 := Q.2.2.2.2.1
      unfold rD at e1 e2
      rw [g119, if_neg (by omega)] at e1
      rw [g120, if_neg (by omega)] at e2
      have f1 := Q2.2.2.2.1
      have f2 := Q2.2.2.2.2.1
      unfold rD at f1 f2
      have h1 : u' = u2 := by omega
      have h2 : v' = v2 := by omega
      rw [h1, h2]
      exact Q2
    have top : ∀ u' v', rz_k (k_ap hc S n x y d) g S C n u' v' → u' = u ∧ v' = v := fun u' v' Q => by
      have e1 := Q.2.2.2.1
      have e2 := Q.2.2.2.2.1
      unfold rD at e1 e2
      rw [g119, if_pos rfl] at e1
      rw [g120, if_pos rfl] at e2
      omega
    have nope : ∀ q u' v', q < n → rz_k (k_ap hc S n x y d) g S C q u' v' → ¬ (u' = u ∧ v' = v) ∧ ¬ (u' = v ∧ v' = u) := fun q u' v' hq Q => by
      have b := rz_kb (back q u' v' hq Q)
      refine ⟨fun e => ?_, fun e => ?_⟩
      · have b1 := b.1
        rw [e.1, e.2, z1] at b1
        exact absurd b1 (by decide +kernel)
      · have b1 := b.1
        rw [e.1, e.2, z2] at b1
        exact absurd b1 (by decide +kernel)
    by_cases c1 : q = n
    · subst c1
      obtain ⟨rfl, rfl⟩ := top u' v' Q
      have lt : q' < q := by omega
      exact ⟨fun Q' => (nope q' _ _ lt Q').1 ⟨rfl, rfl⟩, fun Q' => (nope q' _ _ lt Q').2 ⟨rfl, rfl⟩⟩
    · have lt : q < n := by omega
      by_cases c2 : q' = n
      · subst c2
        refine ⟨fun Q' => ?_, fun Q' => ?_⟩
        · exact (nope q u' v' lt Q).1 (top u' v' Q')
        · have e := top v' u' Q'
          exact (nope q u' v' lt Q).2 ⟨e.2, e.1⟩
      · have lt' : q' < n := by omega
        have r := kP4 q q' u' v' lt lt' ne (back q u' v' lt Q)
        exact ⟨fun Q' => r.1 (back q' u' v' lt' Q'), fun Q' => r.2 (back q' v' u' lt' Q')⟩
theorem rz_FRq {g g0 : mx_H} {x y : Int32} (b : rz_FR S g0 g) : rz_FR S g0 (k_q g x y) := ((b.u (by unfold rz_w; omega)).u (by unfold rz_w; omega)).u (by unfold rz_w; omega)
theorem rz_FRp {g g0 : mx_H} {q : Nat} {x y z : Int32} (hq : 36 * S ≤ q ∧ q < 36 * S + 36) (b : rz_FR S g0 g) : rz_FR S g0 (k_p g q x y z) := ((b.u (by unfold rz_w; omega)).u (by unfold rz_w; omega)).u (by unfold rz_w; omega)
/-- p: a piece -/
theorem rz_piece (t : rz_T hc (rz_r hr) L p) (K : rz_C hc (rz_r hr) S C n) (hF : rD hr (.inl 105) 18 = -1) (hS : rD hr (.inl 105) 1 = S) (S11 : S ≤ 12) : rz_O S L C p hc hr (f89 S hc) (g191_34 112 hr) := by
  have hF1 : rD (rz_r hr) (.inl 105) 18 = -1 := hF
  have hS1 : rD (rz_r hr) (.inl 105) 1 = S := hS
  have C6 := K.1
  have k1 := K.2.1
  have k2 := K.2.2.1
  rw [G34, if_neg (show ¬ (112 : Int32) ≠ 112 from fun q => q rfl), R190, C89]
  rcases rz_let t C6 (by omega) k1 k2 hS1 with ⟨x, u, hu, pl, hx, e1, e2⟩ | ⟨e1, e2⟩
  · rw [e1, e2, if_pos (i_le k_0 hx (by omega)), if_pos (i_le k_0 hx (by omega))]
    have t1 := rz_adv t pl
    have K1 : rz_C (rz_c hc) (rz_r (rz_r hr)) S C n := rz_Cc (rz_Cr K)
    rcases rz_let t1 C6 (by omega) k1 k2 hS1 with ⟨y, v, hv, pl1, hy, e3, e4⟩ | ⟨e3, e4⟩
    · rw [e3, e4, if_neg (i_nlt hy k_0 (by omega)), if_neg (i_nlt hy k_0 (by omega))]
      by_cases c : v = u
      · have e : y = x := i_eq hy hx (by omega)
        rw [if_pos e, if_pos e]
        exact rz_bad (C := C) t1 hF rz_FC.refl (rz_FRr (rz_FRr rz_FR.refl)) rfl (rz_FCc rz_FC.refl)
      · have e : ¬ y = x := i_ne hy hx (by omega)
        rw [if_neg e, if_neg e]
        rcases rz_has K1 hS1 S11 hx hy hu hv (fun q => c q.symm) with ⟨q1, q2⟩ | ⟨q1, q2, z1, z2, n15⟩
        · have q2' : ¬ f180 ((rz_r hr).2.1 (.inl 105) 1) x y (rz_r (rz_r hr)) = 0 := q2
          rw [if_neg q1, if_neg q2']
          exact rz_bad (C := C) t1 hF rz_FC.refl (rz_FRr (rz_FRr rz_FR.refl)) rfl (rz_FCc rz_FC.refl)
        · have q2' : f180 ((rz_r hr).2.1 (.inl 105) 1) x y (rz_r (rz_r hr)) = 0 := q2
          rw [if_pos q1, if_pos q2']
          have t2 := rz_adv t1 pl1
          have K2 : rz_C (rz_c (rz_c hc)) (rz_r (rz_r (rz_r (rz_r hr)))) S C n := rz_Cc (rz_Cc (rz_Cr (rz_Cr (rz_Cr K))))
          rcases rz_dig t2 with ⟨d, d1, d9, pl2, dv, d8, -⟩ | ⟨d0, -, d8⟩
          · rw [if_pos (i_ne dv k_0 (by omega)), d8, k63 K2.2.2.2.1 n15]
            show rz_O S L C p hc hr _ (if (rz_r (rz_r (rz_r (rz_r hr)))).2.1 (.inl 105) 18 < 0 then k_q (f181 ((rz_r (rz_r (rz_r (rz_r hr)))).2.1 (.inl 105) 1) x y 0 (f93 (rz_c (rz_c hc))) 0 (rz_r (rz_r (rz_r (rz_r hr))))) x y else _)
            rw [if_pos (i_lt (show ((rz_r (rz_r (rz_r (rz_r hr)))).2.1 (.inl 105) 18).toInt = -1 from hF) k_0 (by omega)), k181 (S := S) (show ((rz_r (rz_r (rz_r (rz_r hr)))).2.1 (.inl 105) 1).toInt = S from hS) hx hy (by omega) (by omega) (by omega)]
            refine ⟨rz_FCc (kaF (rz_FCc (rz_FCc rz_FC.refl))), rz_FRq (rz_FRp (by omega) (rz_FRp (by omega) (rz_FRr (rz_FRr (rz_FRr (rz_FRr rz_FR.refl)))))), Or.inl ⟨n10, hF, p + 3, n + 1, by omega, rz_adv t2 pl2, ?_⟩⟩
            exact rz_Cc (rz_new K2 hx hy hu hv (fun q => c q.symm) z1 z2 n15 rfl)
          · rw [if_neg (fun q => q d0), d8]
            have e9 : ¬ (f186 (rz_r (rz_r (rz_r hr)))).2.1 (.inl 105) 18 < 0 := by
              rw [G186 (hr := rz_r (rz_r (rz_r hr))) hF, rI_s]
              exact i_nlt t2.2.2.2.2.2.1 k_0 (by omega)
            show rz_O S L C p hc hr _ (if (f186 (rz_r (rz_r (rz_r hr)))).2.1 (.inl 105) 18 < 0 then _ else f186 (rz_r (rz_r (rz_r hr))))
            rw [if_neg e9]
            exact rz_bad (C := C) t2 hF rz_FC.refl (rz_FRr (rz_FRr (rz_FRr rz_FR.refl))) rfl (rz_FCc (rz_FCc rz_FC.refl))
    · rw [e3, e4, if_pos (show (-1 : Int32) < 0 by decide +kernel), if_pos (show (-1 : Int32) < 0 by decide +kernel)]
      exact rz_bad (C := C) t1 hF rz_FC.refl (rz_FRr (rz_FRr rz_FR.refl)) rfl (rz_FCc rz_FC.refl)
  · rw [e1, e2, if_neg (show ¬ (0 : Int32) ≤ -1 by decide +kernel), if_neg (show ¬ (0 : Int32) ≤ -1 by decide +kernel)]
    exact rz_bad (C := C) t hF1 rz_FC.refl (rz_FRr rz_FR.refl) rfl rz_FC.refl
end RW
/-! ===== the whole text is read alike ===== -/
section RX
variable {hc hr h : mx_H} {L p S C n k : Nat}
theorem rz_O.w {hc0 hr0 g : mx_H} {p0 : Nat} {r : Int32 × mx_H} (o : rz_O S L C p hc hr r g) (a : rz_FC S hc0 hc) (b : rz_FR S hr0 hr) (hp : p0 ≤ p) : rz_O S L C p0 hc0 hr0 r g := by
  obtain ⟨o1, o2, o3⟩ := o
  refine ⟨a.trans o1, b.trans o2, ?_⟩
  rcases o3 with ⟨q1, q2, p', n', q3, q4, q5⟩ | q
  · exact Or.inl ⟨q1, q2, p', n', by omega, q4, q5⟩
  · exact Or.inr q
theorem C88 (S : Nat) (h : mx_H) : f88 S h = if f92 h = 59 then (if f92 (rz_c h) = 112 then g88_52 S (f92 (rz_c h)) (rz_c h) else if f92 (rz_c h) = 115 then g88_52 S (f92 (rz_c h)) (rz_c h) else if f92 (rz_c h) = 104 then g88_52 S (f92 (rz_c h)) (rz_c h) else if f92 (rz_c h) = 119 then g88_52 S (f92 (rz_c h)) (rz_c h) else (0, rz_c h)) else (0, h) := f88_eq S h
theorem C88g (S : Nat) (a2 : Int32) (h : mx_H) : g88_52 S a2 h = if a2 ≠ 112 then (if a2 ≠ 104 then (if a2 ≠ 115 then f91 S (.inr (S, 3)) (rz_c h) else f91 S (.inr (S, 2)) (rz_c h)) else f90 S (rz_c h)) else f89 S (rz_c h) := g88_52_eq S a2 h
theorem R191 (h : mx_H) : f191 h = if f185 h = 112 then g191_34 (f185 h) h else if f185 h = 115 then g191_34 (f185 h) h else if f185 h = 104 then g191_34 (f185 h) h else if f185 h = 119 then g191_34 (f185 h) h else f186 h := f191_eq h
theorem rz_part (t : rz_T hc hr L p) (K : rz_C hc hr S C n) (hF : rD hr (.inl 105) 18 = -1) (hS : rD hr (.inl 105) 1 = S) (S11 : S ≤ 12) (sm : f92 hc = 59) (pl : p < L) : rz_O S L C p hc hr (f88 S hc) (f191 (rz_r hr)) := by
  have t1 := rz_adv t pl
  have a1 : rz_FC S hc (rz_c (rz_c hc)) := rz_FCc (rz_FCc rz_FC.refl)
  have b1 : rz_FR S hr (rz_r hr) := rz_FRr rz_FR.refl
  have K2 : rz_C (rz_c (rz_c hc)) (rz_r (rz_r hr)) S C n := rz_Cc (rz_Cc (rz_Cr (rz_Cr K)))
  have hF1 : rD (rz_r hr) (.inl 105) 18 = -1 := hF
  have hS1 : rD (rz_r hr) (.inl 105) 1 = S := hS
  rw [C88, if_pos sm, R191]
  rcases rz_is t1 k_112 (by omega) (by omega) with ⟨e1, e2, pl1⟩ | ⟨e1, e2⟩
  · rw [e1, e2, if_pos rfl, if_pos rfl, C88g, if_neg (fun q => q rfl)]
    exact (rz_piece (rz_adv t1 pl1) K2 hF1 hS1 S11).w a1 b1 (by omega)
  · rw [if_neg e1, if_neg e2]
    rcases rz_is t1 k_115 (by omega) (by omega) with ⟨e3, e4, pl1⟩ | ⟨e3, e4⟩
    · rw [e3, e4, if_pos rfl, if_pos rfl, C88g, if_pos (show (115 : Int32) ≠ 112 by decide +kernel), if_pos (show (115 : Int32) ≠ 104 by decide +kernel), if_neg (fun q => q rfl)]
      exact (rz_pad (rz_adv t1 pl1) K2 hF1 hS1 S11).w a1 b1 (by omega)
    · rw [if_neg e3, if_neg e4]
      rcases rz_is t1 k_104 (by omega) (by omega) with ⟨e5, e6, pl1⟩ | ⟨e5, e6⟩
      · rw [e5, e6, if_pos rfl, if_pos rfl, C88g, if_pos (show (104 : Int32) ≠ 112 by decide +kernel), if_neg (fun q => q rfl)]
        exact (rz_hold (rz_adv t1 pl1) K2 hF1 hS1 S11).w a1 b1 (by omega)
      · rw [if_neg e5, if_neg e6]
        rcases rz_is t1 k_119 (by omega) (by omega) with ⟨e7, e8, pl1⟩ | ⟨e7, e8⟩
        · rw [e7, e8, if_pos rfl, if_pos rfl, C88g, if_pos (show (119 : Int32) ≠ 112 by decide +kernel), if_pos (show (119 : Int32) ≠ 104 by decide +kernel), if_pos (show (119 : Int32) ≠ 115 by decide +kernel)]
          exact (rz_wgt (rz_adv t1 pl1) K2 hF1 hS1 S11).w a1 b1 (by omega)
        · rw [if_neg e7, if_neg e8]
          exact rz_bad (C := C) t1 hF1 rz_FC.refl b1 rfl (rz_FCc rz_FC.refl)
/-- how a text ends -/
def rz_E (S C : Nat) (hc hr : mx_H) (r : Int32 × mx_H) (hr' : mx_H) : Prop :=
  rz_FC S hc r.2 ∧ rz_FR S hr hr' ∧ ((r.1 = -1 ∧ rD hr' (.inl 105) 18 = -1 ∧ ∃ n, rz_C r.2 hr' S C n) ∨ (0 ≤ r.1.toInt ∧ 0 ≤ rD hr' (.inl 105) 18))
theorem C86g (S : Nat) (a2 a3 : Int32) (h : mx_H) : g86_17 S a2 a3 h = if a2 = 0 then (h.2.1 (.inl 1) 2, h) else if h.2.1 (.inl 1) 1 ≤ h.2.1 (.inl 1) 2 then (-1, h) else if 120 ≤ a3 then (-1, h) else g86_17 S (f88 S h).1 (a3 + 1) (f88 S h).2 := by
  rw [g86_17_eq]
  by_cases e : a2 = 0
  · simp only [e, ↓reduceIte]
  · simp only [e, ↓reduceIte]
    rfl
theorem R154 (h : mx_H) : g192_154 h = if 0 ≤ h.2.1 (.inl 105) 18 then h else if f185 h ≠ 59 then (if h.2.1 (.inl 105) 16 ≤ h.2.1 (.inl 105) 17 then h else f186 h) else g192_154 (f191 (rz_r h)) := by
  rw [g192_154_eq]
  by_cases e : 0 ≤ h.2.1 (.inl 105) 18
  · simp only [e, ↓reduceIte]
  · simp only [e, ↓reduceIte]
    rfl
theorem rz_FRf {g0 g : mx_H} (b : rz_FR S g0 g) (hF : rD g (.inl 105) 18 = -1) : rz_FR S g0 (f186 g) := by
  rw [G186 hF]
  exact b.u (Or.inl ⟨rfl, Or.inr (Or.inl rfl)⟩)
theorem rz_loop : ∀ (m : Nat) {hc hr : mx_H} {p n : Nat} {x a3 : Int32} {j : Nat}, L - p < m → a3.toInt = (j : Int) → j ≤ p → ¬ x = 0 → rz_T hc hr L p → rz_C hc hr S C n → rD hr (.inl 105) 18 = -1 → rD hr (.inl 105) 1 = S → S ≤ 12 → rz_E S C hc hr (g86_17 S x a3 hc) (g192_154 hr)
  | 0, _, _, _, _, _, _, _, hm, _, _, _, _, _, _, _, _ => absurd hm (Nat.not_lt_zero _)
  | m + 1, hc, hr, p, n, x, a3, j, hm, ha, hj, hx, t, K, hF, hS, S11 => by
    rw [C86g, if_neg hx, R154, if_neg (i_nle k_0 hF (by omega))]
    obtain ⟨l, pl, t1, t2, t3, t4, tb⟩ := id t
    by_cases e : p = L
    · have ns : f185 hr ≠ 59 := by
        rcases rz_is t k_59 (by omega) (by omega) with ⟨-, -, q⟩ | ⟨-, q⟩
        · omega
        · exact q
      rw [if_pos (i_le t1 t2 (by omega)), if_pos ns, if_pos (i_le t3 t4 (by omega))]
      exact ⟨rz_FC.refl, rz_FR.refl, Or.inl ⟨rfl, hF, n, K⟩⟩
    · rw [if_neg (i_nle t1 t2 (by omega)), if_neg (i_nle k_120 ha (by omega))]
      rcases rz_is t k_59 (by omega) (by omega) with ⟨e1, e2, pl1⟩ | ⟨e1, e2⟩
      · rw [if_neg (fun q => q e2)]
        obtain ⟨o1, o2, o3⟩ := rz_part t K hF hS S11 e1 pl1
        rcases o3 with ⟨q1, q2, p', n', q3, q4, q5⟩ | ⟨q1, q2, q3⟩
        · have hS' : rD (f191 (rz_r hr)) (.inl 105) 1 = S := by
            unfold rD
            rw [o2.2.2.2 105 1 (by unfold rz_w; omega)]
            exact hS
          have ih := rz_loop m (x := (f88 S hc).1) (a3 := a3 + 1) (j := j + 1) (by omega) (by rw [i_add ha k_1 (by omega) (by omega)]; omega) (by omega) q1 q4 q5 q2 hS' S11
          exact ⟨o1.trans ih.1, o2.trans ih.2.1, ih.2.2⟩
        · rw [C86g, if_pos q1, R154, if_pos (i_le k_0 rfl q2)]
          exact ⟨o1, o2, Or.inr ⟨q3, q2⟩⟩
      · have c : f88 S hc = (0, hc) := by rw [C88, if_neg e1]
        rw [if_pos e2, if_neg (i_nle t3 t4 (by omega)), c, C86g, if_pos rfl]
        refine ⟨rz_FC.refl, rz_FRf rz_FR.refl hF, Or.inr ⟨?_, ?_⟩⟩
        · show 0 ≤ rD hc (.inl 1) 2
          omega
        · rw [G186 hF]
          show 0 ≤ rD hr (.inl 105) 17
          omega
/-- corners -/
theorem C87g (S : Nat) (a2 : Int32) (h : mx_H) : g87_23 S a2 h = if 6 ≤ a2 then (if h.2.1 (.inr (S, 0)) 0 ≤ 0 then (0, h) else (1, h)) else if f93 h ≤ 0 then (if h.2.1 (.inr (S, 0)) 0 ≤ 0 then (0, h) else (1, h)) else g87_23 S (a2 + 1) (rz_c (mx_uI (mx_uI h (.inr (S, 1)) (Int32.toNatClampNeg a2) (f93 h)) (.inr (S, 0)) 0 (a2 + 1))) := g87_23_eq S a2 h
theorem R75 (h : mx_H) : g192_75 h = if 6 ≤ h.2.1 (.inl 106) (Int32.toNatClampNeg (h.2.1 (.inl 105) 1)) then (if h.2.1 (.inl 106) (Int32.toNatClampNeg (h.2.1 (.inl 105) 1)) ≠ 0 then g192_154 h else g192_154 (f186 h)) else if f187 h = 0 then (if h.2.1 (.inl 106) (Int32.toNatClampNeg (h.2.1 (.inl 105) 1)) ≠ 0 then g192_154 h else g192_154 (f186 h)) else x_let (f188 h) (fun x10 h9 => g192_75 (mx_uI (mx_uI h9 (.inl 107) (Int32.toNatClampNeg (6 * h.2.1 (.inl 105) 1 + h.2.1 (.inl 106) (Int32.toNatClampNeg (h.2.1 (.inl 105) 1)))) x10) (.inl 106) (Int32.toNatClampNeg (h9.2.1 (.inl 105) 1)) (h9.2.1 (.inl 106) (Int32.toNatClampNeg (h9.2.1 (.inl 105) 1)) + 1))) := g192_75_eq h
theorem rz_exit (t : rz_T hc hr L p) (K : rz_C hc hr S k 0) (hF : rD hr (.inl 105) 18 = -1) (hS : rD hr (.inl 105) 1 = S) (S11 : S ≤ 12) :
    ∃ C, 1 ≤ C ∧ rz_E S C hc hr (x_let (if hc.2.1 (.inr (S, 0)) 0 ≤ 0 then ((0 : Int32), hc) else (1, hc)) (fun g h => g86_17 S g 0 h)) (if hr.2.1 (.inl 106) S ≠ 0 then g192_154 hr else g192_154 (f186 hr)) := by
  have k1 := K.2.1
  have k2 := K.2.2.1
  by_cases e : k = 0
  · refine ⟨1, Nat.le_refl _, ?_⟩
    rw [if_pos (i_le k1 k_0 (by omega)), if_neg (fun q => q (i_eq k2 k_0 (by omega)))]
    show rz_E S 1 hc hr (g86_17 S 0 0 hc) (g192_154 (f186 hr))
    have z : 0 ≤ rD (f186 hr) (.inl 105) 18 := by
      rw [G186 hF]
      show 0 ≤ rD hr (.inl 105) 17
      rw [t.2.2.2.2.2.1]
      omega
    rw [C86g, if_pos rfl, R154, if_pos (i_le k_0 rfl z)]
    refine ⟨rz_FC.refl, rz_FRf rz_FR.refl hF, Or.inr ⟨?_, z⟩⟩
    show 0 ≤ rD hc (.inl 1) 2
    rw [t.2.2.2.1]
    omega
  · refine ⟨k, by omega, ?_⟩
    rw [if_neg (i_nle k1 k_0 (by omega)), if_pos (i_ne k2 k_0 (by omega))]
    exact rz_loop (L - p + 1) (j := 0) (by omega) rfl (by omega) n10 t K hF hS S11
theorem rz_corn : ∀ (m : Nat) {hc hr : mx_H} {p k : Nat} {a2 : Int32}, 6 - k < m → a2.toInt = (k : Int) → rz_T hc hr L p → rz_C hc hr S k 0 → rD hr (.inl 105) 18 = -1 → rD hr (.inl 105) 1 = S → S ≤ 12 →
    ∃ C, 1 ≤ C ∧ rz_E S C hc hr (x_let (g87_23 S a2 hc) (fun g h => g86_17 S g 0 h)) (g192_75 hr)
  | 0, _, _, _, _, _, hm, _, _, _, _, _, _ => absurd hm (Nat.not_lt_zero _)
  | m + 1, hc, hr, p, k, a2, hm, ha, t, K, hF, hS, S11 => by
    have cS : Int32.toNatClampNeg (hr.2.1 (.inl 105) 1) = S := i_cl hS
    obtain ⟨C6, k1, k2, k3, k4, k5, k6, kP⟩ := id K
    rw [C87g, R75, cS]
    by_cases e : k = 6
    · rw [if_pos (i_le k_6 ha (by omega)), if_pos (i_le k_6 k2 (by omega))]
      exact rz_exit t K hF hS S11
    · rw [if_neg (i_nle k_6 ha (by omega)), if_neg (i_nle k_6 k2 (by omega))]
      rcases rz_dig t with ⟨d, d1, d9, pl, dv, d8, d7⟩ | ⟨d0, d7, -⟩
      · rw [if_neg (i_nle dv k_0 (by omega)), if_neg d7, d8, i_cl ha, i_cl (w6 hS k2 (by omega) (by omega))]
        show ∃ C, 1 ≤ C ∧ rz_E S C hc hr (x_let (g87_23 S (a2 + 1) (rz_c (mx_uI (mx_uI hc (.inr (S, 1)) k (f93 hc)) (.inr (S, 0)) 0 (a2 + 1)))) (fun g h => g86_17 S g 0 h)) (g192_75 (mx_uI (mx_uI (rz_r hr) (.inl 107) (6 * S + k) (f93 hc)) (.inl 106) (Int32.toNatClampNeg (hr.2.1 (.inl 105) 1)) (hr.2.1 (.inl 106) (Int32.toNatClampNeg (hr.2.1 (.inl 105) 1)) + 1)))
        rw [cS]
        have ha' : (a2 + 1).toInt = ((k + 1 : Nat) : Int) := by
          rw [i_add ha k_1 (by omega) (by omega)]
          omega
        have K' : rz_C (rz_c (mx_uI (mx_uI hc (.inr (S, 1)) k (f93 hc)) (.inr (S, 0)) 0 (a2 + 1))) (mx_uI (mx_uI (rz_r hr) (.inl 107) (6 * S + k) (f93 hc)) (.inl 106) S (hr.2.1 (.inl 106) S + 1)) S (k + 1) 0 := by
          have hP : rz_P (rz_c (mx_uI (mx_uI hc (.inr (S, 1)) k (f93 hc)) (.inr (S, 0)) 0 (a2 + 1))) (mx_uI (mx_uI (rz_r hr) (.inl 107) (6 * S + k) (f93 hc)) (.inl 106) S (hr.2.1 (.inl 106) S + 1)) S k 0 := by
            refine rz_P.x ?_ ?_ ?_ ?_ rfl rfl rfl rfl rfl kP
            · show (mx_uI (mx_uI hc (.inr (S, 1)) k (f93 hc)) (.inr (S, 0)) 0 (a2 + 1)).2.1 (.inr (S, 5)) = _
              rw [rS (by decide +kernel), rS (by decide +kernel)]
            · show (mx_uI (mx_uI hc (.inr (S, 1)) k (f93 hc)) (.inr (S, 0)) 0 (a2 + 1)).2.1 (.inr (S, 6)) = _
              rw [rS (by decide +kernel), rS (by decide +kernel)]
            · show (mx_uI (mx_uI hc (.inr (S, 1)) k (f93 hc)) (.inr (S, 0)) 0 (a2 + 1)).2.1 (.inr (S, 7)) = _
              rw [rS (by decide +kernel), rS (by decide +kernel)]
            · show (mx_uI (mx_uI hc (.inr (S, 1)) k (f93 hc)) (.inr (S, 0)) 0 (a2 + 1)).2.1 (.inr (S, 8)) = _
              rw [rS (by decide +kernel), rS (by decide +kernel)]
          refine ⟨by omega, ?_, ?_, ?_, k4, fun c q => ?_, fun c q => ?_, fun q hq => absurd hq (Nat.not_lt_zero _), fun u v hu hv => ?_, hP.2.2.1, fun q q' u v hq => absurd hq (Nat.not_lt_zero _)⟩
          · show ((mx_uI (mx_uI hc (.inr (S, 1)) k (f93 hc)) (.inr (S, 0)) 0 (a2 + 1)).2.1 (.inr (S, 0)) 0).toInt = _
            rw [rI_s]
            exact ha'
          · show ((mx_uI (mx_uI (rz_r hr) (.inl 107) (6 * S + k) (f93 hc)) (.inl 106) S (hr.2.1 (.inl 106) S + 1)).2.1 (.inl 106) S).toInt = _
            rw [rI_s, i_add k2 k_1 (by omega) (by omega)]
            omega
          · show ((mx_uI (mx_uI hc (.inr (S, 1)) k (f93 hc)) (.inr (S, 0)) 0 (a2 + 1)).2.1 (.inr (S, 0)) 6).toInt = _
            rw [rI_i (by decide +kernel), rS (by decide +kernel)]
            exact k3
          · show (mx_uI (mx_uI hc (.inr (S, 1)) k (f93 hc)) (.inr (S, 0)) 0 (a2 + 1)).2.1 (.inr (S, 1)) c = (mx_uI (rz_r hr) (.inl 107) (6 * S + k) (f93 hc)).2.1 (.inl 107) (6 * S + c)
            rw [rS (show 1 ≠ 0 by decide +kernel)]
            by_cases e : c = k
            · rw [rI_c rfl e, rI_c rfl (by omega)]
            · rw [rI_i e, rI_i (by omega)]
              exact k5 c (by omega)
          · show (mx_uI (mx_uI hc (.inr (S, 1)) k (f93 hc)) (.inr (S, 0)) 0 (a2 + 1)).2.1 (.inr (S, 2)) c = _ ∧ (mx_uI (mx_uI hc (.inr (S, 1)) k (f93 hc)) (.inr (S, 0)) 0 (a2 + 1)).2.1 (.inr (S, 3)) c = _ ∧ (mx_uI (mx_uI hc (.inr (S, 1)) k (f93 hc)) (.inr (S, 0)) 0 (a2 + 1)).2.1 (.inr (S, 4)) c = _ ∧ (_ ↔ (mx_uI (mx_uI hc (.inr (S, 1)) k (f93 hc)) (.inr (S, 0)) 0 (a2 + 1)).2.1 (.inr (S, 2)) c = 0) ∧ (_ ↔ (mx_uI (mx_uI hc (.inr (S, 1)) k (f93 hc)) (.inr (S, 0)) 0 (a2 + 1)).2.1 (.inr (S, 3)) c = 0)
            rw [rS (show 2 ≠ 0 by decide +kernel), rS (show 3 ≠ 0 by decide +kernel), rS (show 4 ≠ 0 by decide +kernel), rS (show 2 ≠ 1 by decide +kernel), rS (show 3 ≠ 1 by decide +kernel), rS (show 4 ≠ 1 by decide +kernel)]
            exact k6 c q
          · rcases hP.2.1 u v hu hv with z | ⟨q, q1, -⟩
            · exact Or.inl z
            · exact absurd q1 (Nat.not_lt_zero _)
        have t' : rz_T (rz_c (mx_uI (mx_uI hc (.inr (S, 1)) k (f93 hc)) (.inr (S, 0)) 0 (a2 + 1))) (mx_uI (mx_uI (rz_r hr) (.inl 107) (6 * S + k) (f93 hc)) (.inl 106) S (hr.2.1 (.inl 106) S + 1)) L (p + 1) := rz_adv t pl
        obtain ⟨C, c1, E⟩ := rz_corn m (by omega) ha' t' K' hF hS S11
        refine ⟨C, c1, (rz_FCc ((rz_FC.refl.s (by decide +kernel)).s (by decide +kernel))).trans E.1, ?_, E.2.2⟩
        exact (((rz_FRr rz_FR.refl).u (by unfold rz_w; omega)).u (by unfold rz_w; omega)).trans E.2.1
      · rw [if_pos (i_le (congrArg Int32.toInt d0) k_0 (by decide +kernel)), if_pos d7]
        exact rz_exit t K hF hS S11
end RX
/-! ===== a text, from its first sign ===== -/
section RY
variable {hc hr h : mx_H} {L p S C n k : Nat}
/-- a row filled -/
def k_f (h : mx_H) (a : mx_A) (n : Nat) (v : Int32) : mx_H := (h.1, fun b j => if b = a ∧ j < n then v else h.2.1 b j, h.2.2)
theorem k_fr {a b : mx_A} {j : Nat} {v : Int32} : (k_f h a n v).2.1 b j = if b = a ∧ j < n then v else h.2.1 b j := rfl
theorem k_f0 {a : mx_A} {v : Int32} : k_f h a 0 v = h := by
  refine Prod.ext rfl (Prod.ext (funext fun b => funext fun j => ?_) rfl)
  exact if_neg (fun q => Nat.not_lt_zero _ q.2)
theorem k_f1 {a : mx_A} {v : Int32} : mx_uI (k_f h a n v) a n v = k_f h a (n + 1) v := by
  refine Prod.ext rfl (Prod.ext (funext fun b => funext fun j => ?_) rfl)
  show (if b = a ∧ j = n then v else if b = a ∧ j < n then v else h.2.1 b j) = if b = a ∧ j < n + 1 then v else h.2.1 b j
  by_cases e1 : b = a
  · by_cases e2 : j = n
    · rw [if_pos ⟨e1, e2⟩, if_pos ⟨e1, by omega⟩]
    · rw [if_neg (fun q => e2 q.2)]
      by_cases e3 : j < n
      · rw [if_pos ⟨e1, e3⟩, if_pos ⟨e1, by omega⟩]
      · rw [if_neg (fun q => e3 q.2), if_neg (fun q => by omega)]
  · rw [if_neg (fun q => e1 q.1), if_neg (fun q => e1 q.1), if_neg (fun q => e1 q.1)]
theorem k317g {a : mx_A} {v y : Int32} (hy : y.toInt = (n : Int)) (hn : n < 1000) : ∀ (j i : Nat) (x : Int32), i + j = n → x.toInt = (i : Int) → g317_5 a v x y (k_f h a i v) = k_f h a n v
  | 0, i, x, e, hx => by
    have e' : i = n := by omega
    subst e'
    rw [g317_5_eq, if_pos (i_le hy hx (by omega))]
  | j + 1, i, x, e, hx => by
    rw [g317_5_eq, if_neg (i_nle hy hx (by omega)), i_cl hx, k_f1]
    exact k317g hy hn j (i + 1) (x + 1) (by omega) (by rw [i_add hx k_1 (by omega) (by omega)]; omega)
theorem k317 {a : mx_A} {v : Int32} (hl : (mx_lo a).2 = n) (hn : n < 1000) : f317 a v h = k_f h a n v := by
  rw [f317_eq, hl]
  have := k317g (h := h) (a := a) (v := v) (y := Int32.ofNat n) (nI_toInt (by omega)) hn n 0 0 (by omega) rfl
  rw [k_f0] at this
  exact this
theorem k_fF {h0 : mx_H} {o : Nat} {v : Int32} (ho : o < 9) (a : rz_FW S h0 h) : rz_FW S h0 (k_f h (.inr (S, o)) n v) := ⟨a.1, a.2.1, fun k j q => (show (k_f h (.inr (S, o)) n v).2.1 (.inl k) j = h.2.1 (.inl k) j from rfl).trans (a.2.2.1 k j q), fun s o' j q => (if_neg (fun e => by
  obtain ⟨e1, -⟩ := e
  cases e1
  exact q ⟨rfl, ho⟩)).trans (a.2.2.2 s o' j q)⟩
theorem k_fo {o o' i : Nat} {v : Int32} (ho : o ≠ o') : (k_f h (.inr (S, o')) n v).2.1 (.inr (S, o)) i = h.2.1 (.inr (S, o)) i := if_neg (fun q => ne_oo ho q.1)
theorem k_fs {o i : Nat} {v : Int32} (hi : i < n) : (k_f h (.inr (S, o)) n v).2.1 (.inr (S, o)) i = v := if_pos ⟨rfl, hi⟩
/-- the class's draft is cleared -/
theorem C59 (S : Nat) (h : mx_H) : f59 S h = mx_uI (mx_uI (k_f (k_f (k_f (mx_uI (mx_uI h (.inr (S, 0)) 0 0) (.inr (S, 0)) 6 0) (.inr (S, 2)) 6 0) (.inr (S, 3)) 6 0) (.inr (S, 4)) 6 0) (.inr (S, 0)) 11 (-1)) (.inr (S, 0)) 12 (-1) := by
  rw [f59_eq]
  show mx_uI (mx_uI (f317 (.inr (S, 4)) 0 (f317 (.inr (S, 3)) 0 (f317 (.inr (S, 2)) 0 (mx_uI (mx_uI h (.inr (S, 0)) 0 0) (.inr (S, 0)) 6 0)))) (.inr (S, 0)) 11 (-1)) (.inr (S, 0)) 12 (-1) = _
  rw [k317 (n := 6) rfl (by decide +kernel), k317 (n := 6) rfl (by decide +kernel), k317 (n := 6) rfl (by decide +kernel)]
theorem C59s (S : Nat) (h : mx_H) : rz_FW S h (f59 S h) ∧ (f59 S h).2.1 (.inr (S, 0)) 0 = 0 ∧ (f59 S h).2.1 (.inr (S, 0)) 6 = 0 ∧ (f59 S h).2.1 (.inr (S, 0)) 11 = -1 ∧ (f59 S h).2.1 (.inr (S, 0)) 12 = -1 ∧ ∀ c, c < 6 → (f59 S h).2.1 (.inr (S, 2)) c = 0 ∧ (f59 S h).2.1 (.inr (S, 3)) c = 0 ∧ (f59 S h).2.1 (.inr (S, 4)) c = 0 := by
  rw [C59]
  refine ⟨((k_fF (by decide +kernel) (k_fF (by decide +kernel) (k_fF (by decide +kernel) ((rz_FW.refl.s (by decide +kernel)).s (by decide +kernel))))).s (by decide +kernel)).s (by decide +kernel), ?_, ?_, ?_, ?_, fun c q => ⟨?_, ?_, ?_⟩⟩
  · rw [rI_i (by decide +kernel), rI_i (by decide +kernel), k_fo (by decide +kernel), k_fo (by decide +kernel), k_fo (by decide +kernel), rI_i (by decide +kernel), rI_s]
  · rw [rI_i (by decide +kernel), rI_i (by decide +kernel), k_fo (by decide +kernel), k_fo (by decide +kernel), k_fo (by decide +kernel), rI_s]
  · rw [rI_i (by decide +kernel), rI_s]
  · rw [rI_s]
  · rw [rS (by decide +kernel), rS (by decide +kernel), k_fo (by decide +kernel), k_fo (by decide +kernel), k_fs q]
  · rw [rS (by decide +kernel), rS (by decide +kernel), k_fo (by decide +kernel), k_fs q]
  · rw [rS (by decide +kernel), rS (by decide +kernel), k_fs q]
/-- the reference's draft is cleared -/
theorem R182a {s : Int32} (hs : s.toInt = (S : Int)) (S11 : S ≤ 12) : ∀ (j c : Nat) (x : Int32) {h0 g : mx_H}, c + j = 6 → x.toInt = (c : Int) → rz_FR S h0 g → (∀ i, g.2.1 (.inl 105) i = h0.2.1 (.inl 105) i) → g.2.1 (.inl 106) S = 0 → (∀ i, i < c → g.2.1 (.inl 107) (6 * S + i) = 0 ∧ g.2.1 (.inl 108) (6 * S + i) = 0 ∧ g.2.1 (.inl 109) (6 * S + i) = 0 ∧ g.2.1 (.inl 110) (6 * S + i) = 0) →
    ∃ g', g182_9 s x g = g182_74 s (36 * s) g' ∧ rz_FR S h0 g' ∧ (∀ i, g'.2.1 (.inl 105) i = h0.2.1 (.inl 105) i) ∧ g'.2.1 (.inl 106) S = 0 ∧ (∀ i, i < 6 → g'.2.1 (.inl 107) (6 * S + i) = 0 ∧ g'.2.1 (.inl 108) (6 * S + i) = 0 ∧ g'.2.1 (.inl 109) (6 * S + i) = 0 ∧ g'.2.1 (.inl 110) (6 * S + i) = 0)
  | 0, c, x, h0, g, e, hx, F, U, z, Z => by
    refine ⟨g, ?_, F, U, z, fun i hi => Z i (by omega)⟩
    rw [g182_9_eq, if_pos (i_le k_6 hx (by omega))]
  | j + 1, c, x, h0, g, e, hx, F, U, z, Z => by
    have w := w6 hs hx (by omega) (show c < 6 by omega)
    rw [g182_9_eq, if_neg (i_nle k_6 hx (by omega)), i_cl w]
    refine R182a hs S11 j (c + 1) (x + 1) (by omega) (by rw [i_add hx k_1 (by omega) (by omega)]; omega) ?_ U z (fun i hi => ?_)
    · exact (((F.u (by unfold rz_w; omega)).u (by unfold rz_w; omega)).u (by unfold rz_w; omega)).u (by unfold rz_w; omega)
    · show (mx_uI g (.inl 107) (6 * S + c) 0).2.1 (.inl 107) (6 * S + i) = 0 ∧ (mx_uI g (.inl 108) (6 * S + c) 0).2.1 (.inl 108) (6 * S + i) = 0 ∧ (mx_uI g (.inl 109) (6 * S + c) 0).2.1 (.inl 109) (6 * S + i) = 0 ∧ (mx_uI g (.inl 110) (6 * S + c) 0).2.1 (.inl 110) (6 * S + i) = 0
      by_cases e : i = c
      · subst e
        rw [rI_s, rI_s, rI_s, rI_s]
        exact ⟨rfl, rfl, rfl, rfl⟩
      · rw [rI_i (by omega), rI_i (by omega), rI_i (by omega), rI_i (by omega)]
        exact Z i (by omega)
theorem R182b {s : Int32} (hs : s.toInt = (S : Int)) (S11 : S ≤ 12) : ∀ (j c : Nat) (x : Int32) {h0 g : mx_H}, c + j = 36 → x.toInt = ((36 * S + c : Nat) : Int) → rz_FR S h0 g → (∀ i, g.2.1 (.inl 105) i = h0.2.1 (.inl 105) i) → g.2.1 (.inl 106) S = 0 → (∀ i, i < 6 → g.2.1 (.inl 107) (6 * S + i) = 0 ∧ g.2.1 (.inl 108) (6 * S + i) = 0 ∧ g.2.1 (.inl 109) (6 * S + i) = 0 ∧ g.2.1 (.inl 110) (6 * S + i) = 0) → (∀ i, i < c → g.2.1 (.inl 113) (36 * S + i) = 0) →
    rz_FR S h0 (g182_74 s x g) ∧ (∀ i, (g182_74 s x g).2.1 (.inl 105) i = h0.2.1 (.inl 105) i) ∧ (g182_74 s x g).2.1 (.inl 106) S = 0 ∧ (∀ i, i < 6 → (g182_74 s x g).2.1 (.inl 107) (6 * S + i) = 0 ∧ (g182_74 s x g).2.1 (.inl 108) (6 * S + i) = 0 ∧ (g182_74 s x g).2.1 (.inl 109) (6 * S + i) = 0 ∧ (g182_74 s x g).2.1 (.inl 110) (6 * S + i) = 0) ∧ ∀ i, i < 36 → (g182_74 s x g).2.1 (.inl 113) (36 * S + i) = 0
  | 0, c, x, h0, g, e, hx, F, U, z, Z, Y => by
    have w := i_add (i_mul k_36 hs (by omega) (by omega)) k_36 (by omega) (by omega)
    rw [g182_74_eq, if_pos (i_le w hx (by omega))]
    exact ⟨F, U, z, Z, fun i hi => Y i (by omega)⟩
  | j + 1, c, x, h0, g, e, hx, F, U, z, Z, Y => by
    have w := i_add (i_mul k_36 hs (by omega) (by omega)) k_36 (by omega) (by omega)
    rw [g182_74_eq, if_neg (i_nle w hx (by omega)), i_cl hx]
    refine R182b hs S11 j (c + 1) (x + 1) (by omega) (by rw [i_add hx k_1 (by omega) (by omega)]; omega) ?_ U z Z (fun i hi => ?_)
    · exact ((F.u (by unfold rz_w; omega)).u (by unfold rz_w; omega)).u (by unfold rz_w; omega)
    · show (mx_uI g (.inl 113) (36 * S + c) 0).2.1 (.inl 113) (36 * S + i) = 0
      by_cases e : i = c
      · subst e
        rw [rI_s]
      · rw [rI_i (by omega)]
        exact Y i (by omega)
theorem R182 {s : Int32} (hs : s.toInt = (S : Int)) (S11 : S ≤ 12) : rz_FR S h (f182 s h) ∧ (∀ i, (f182 s h).2.1 (.inl 105) i = h.2.1 (.inl 105) i) ∧ (f182 s h).2.1 (.inl 106) S = 0 ∧ (∀ i, i < 6 → (f182 s h).2.1 (.inl 107) (6 * S + i) = 0 ∧ (f182 s h).2.1 (.inl 108) (6 * S + i) = 0 ∧ (f182 s h).2.1 (.inl 109) (6 * S + i) = 0 ∧ (f182 s h).2.1 (.inl 110) (6 * S + i) = 0) ∧ ∀ i, i < 36 → (f182 s h).2.1 (.inl 113) (36 * S + i) = 0 := by
  rw [f182_eq, i_cl hs]
  obtain ⟨g, e, F, U, z, Z⟩ := R182a hs S11 6 0 0 (h0 := h) (g := mx_uI h (.inl 106) S 0) (by omega) rfl (rz_FR.refl.u (by unfold rz_w; omega)) (fun _ => rfl) rI_s (fun i hi => absurd hi (Nat.not_lt_zero _))
  rw [e]
  exact R182b hs S11 36 0 (36 * s) (by omega) (by rw [i_mul k_36 hs (by omega) (by omega)]; omega) F U z Z (fun i hi => absurd hi (Nat.not_lt_zero _))
/-- no pads, no weights are marked -/
theorem R192a : ∀ (j c : Nat) (x : Int32) {h0 g : mx_H}, c + j = 6 → x.toInt = (c : Int) → (∀ k i, k ≠ 121 → k ≠ 122 → g.2.1 (.inl k) i = h0.2.1 (.inl k) i) → rz_FR S h0 g → (∀ i, i < c → g.2.1 (.inl 121) i = 0 ∧ g.2.1 (.inl 122) i = 0) →
    ∃ g', g192_25 x g = (if f185 g' = 99 then g192_75 (rz_r g') else f186 g') ∧ (∀ k i, k ≠ 121 → k ≠ 122 → g'.2.1 (.inl k) i = h0.2.1 (.inl k) i) ∧ rz_FR S h0 g' ∧ (∀ i, i < 6 → g'.2.1 (.inl 121) i = 0 ∧ g'.2.1 (.inl 122) i = 0)
  | 0, c, x, h0, g, e, hx, U, F, Z => by
    refine ⟨g, ?_, U, F, fun i hi => Z i (by omega)⟩
    rw [g192_25_eq, if_pos (i_le k_6 hx (by omega))]
    rfl
  | j + 1, c, x, h0, g, e, hx, U, F, Z => by
    rw [g192_25_eq, if_neg (i_nle k_6 hx (by omega)), i_cl hx]
    refine R192a j (c + 1) (x + 1) (by omega) (by rw [i_add hx k_1 (by omega) (by omega)]; omega) (fun k i q1 q2 => ?_) ?_ (fun i hi => ?_)
    · rw [rN q2, rN q1]
      exact U k i q1 q2
    · exact (F.u (by unfold rz_w; omega)).u (by unfold rz_w; omega)
    · show (mx_uI g (.inl 121) c 0).2.1 (.inl 121) i = 0 ∧ (mx_uI g (.inl 122) c 0).2.1 (.inl 122) i = 0
      by_cases e : i = c
      · subst e
        rw [rI_s, rI_s]
        exact ⟨rfl, rfl⟩
      · rw [rI_i (by omega), rI_i (by omega)]
        exact Z i (by omega)
/-- how a whole text ends -/
def rz_G (S C : Nat) (hc hr : mx_H) (r : Int32 × mx_H) (hr' : mx_H) : Prop :=
  rz_FW S hc r.2 ∧ (r.2.2.1 (.inr (S, 0)) 11 = -1 ∧ r.2.2.1 (.inr (S, 0)) 12 = -1) ∧ rz_FR S hr hr' ∧ ((r.1 = -1 ∧ rD hr' (.inl 105) 18 = -1 ∧ ∃ n, rz_C r.2 hr' S C n) ∨ (0 ≤ r.1.toInt ∧ 0 ≤ rD hr' (.inl 105) 18))
/-- the whole text -/
theorem rz_text (L120 : L ≤ 120) (h1 : rD hc (.inl 1) 1 = L) (h2 : rD hr (.inl 105) 16 = L) (hb : ∀ i, i < L → rz_b (rD hc (.inl 2) i) (rD hr (.inl 118) i)) (hS : rD hr (.inl 105) 1 = S) (S11 : S ≤ 12) :
    ∃ C, 1 ≤ C ∧ rz_G S C hc hr (f86 S hc) (f192 hr) := by
  obtain ⟨F, c0, c6, c11, c12, cc⟩ := C59s S hc
  rw [f86_eq, f192_eq]
  show ∃ C, 1 ≤ C ∧ rz_G S C hc hr (x_let (f87 S (mx_uI (f59 S hc) (.inl 1) 2 0)) (fun g h => g86_17 S g 0 h)) (g192_25 0 (f182 (hr.2.1 (.inl 105) 1) (mx_uI (mx_uI (mx_uI hr (.inl 105) 17 0) (.inl 105) 18 (-1)) (.inl 105) 19 0)))
  have G0 : rz_FR S hr (mx_uI (mx_uI (mx_uI hr (.inl 105) 17 0) (.inl 105) 18 (-1)) (.inl 105) 19 0) := ((rz_FR.refl.u (by unfold rz_w; omega)).u (by unfold rz_w; omega)).u (by unfold rz_w; omega)
  obtain ⟨G, g5, g6, gg, g36⟩ := R182 (h := mx_uI (mx_uI (mx_uI hr (.inl 105) 17 0) (.inl 105) 18 (-1)) (.inl 105) 19 0) hS S11
  generalize f182 (hr.2.1 (.inl 105) 1) (mx_uI (mx_uI (mx_uI hr (.inl 105) 17 0) (.inl 105) 18 (-1)) (.inl 105) 19 0) = q at G g5 g6 gg g36 ⊢
  obtain ⟨g', e, U, F', Z⟩ := R192a (S := S) 6 0 0 (h0 := q) (g := q) (by omega) rfl (fun _ _ _ _ => rfl) rz_FR.refl (fun i hi => absurd hi (Nat.not_lt_zero _))
  rw [e]
  have v5 : ∀ i, g'.2.1 (.inl 105) i = (mx_uI (mx_uI (mx_uI hr (.inl 105) 17 0) (.inl 105) 18 (-1)) (.inl 105) 19 0).2.1 (.inl 105) i := fun i => (U 105 i (by decide +kernel) (by decide +kernel)).trans (g5 i)
  have FR1 : rz_FR S hr g' := (G0.trans G).trans F'
  have FC1 : rz_FW S hc (mx_uI (f59 S hc) (.inl 1) 2 0) := F.c
  have t16 : rD g' (.inl 105) 16 = L := by
    unfold rD
    rw [v5]
    exact h2
  have t17 : rD g' (.inl 105) 17 = (0 : Nat) := by
    unfold rD
    rw [v5]
    rfl
  have t18 : rD g' (.inl 105) 18 = -1 := by
    unfold rD
    rw [v5]
    rfl
  have t19 : rD g' (.inl 105) 19 = (0 : Nat) := by
    unfold rD
    rw [v5]
    rfl
  have t1 : rD g' (.inl 105) 1 = S := by
    unfold rD
    rw [v5]
    exact hS
  have T : rz_T (mx_uI (f59 S hc) (.inl 1) 2 0) g' L 0 := by
    refine ⟨L120, Nat.zero_le _, ?_, rfl, t16, t17, fun i hi => ?_⟩
    · show ((f59 S hc).2.1 (.inl 1) 1).toInt = _
      rw [F.2.2.1 1 1 (by decide +kernel)]
      exact h1
    · have e1 : rD (mx_uI (f59 S hc) (.inl 1) 2 0) (.inl 2) i = rD hc (.inl 2) i := by
        show ((f59 S hc).2.1 (.inl 2) i).toInt = _
        rw [F.2.2.1 2 i (by omega)]
      have e2 : rD g' (.inl 118) i = rD hr (.inl 118) i := by
        unfold rD
        rw [FR1.2.2.2 118 i (by unfold rz_w; omega)]
      rw [e1, e2]
      exact hb i hi
  have K : rz_C (mx_uI (f59 S hc) (.inl 1) 2 0) g' S 0 0 := by
    have z13 : ∀ i, i < 36 → g'.2.1 (.inl 113) (36 * S + i) = 0 := fun i hi => by
      rw [U 113 _ (by decide +kernel) (by decide +kernel)]
      exact g36 i hi
    refine ⟨by decide +kernel, ?_, ?_, ?_, t19, fun c q => absurd q (Nat.not_lt_zero _), fun c q => ?_, fun k q => absurd q (Nat.not_lt_zero _), fun u v hu hv => ?_, ?_, fun q q' u v hq => absurd hq (Nat.not_lt_zero _)⟩
    · show ((f59 S hc).2.1 (.inr (S, 0)) 0).toInt = _
      rw [c0]
      rfl
    · unfold rD
      rw [U 106 _ (by decide +kernel) (by decide +kernel), g6]
      rfl
    · show ((f59 S hc).2.1 (.inr (S, 0)) 6).toInt = _
      rw [c6]
      rfl
    · obtain ⟨p2, p3, p4⟩ := cc c q
      obtain ⟨-, q8, q9, q0⟩ := gg c q
      have p2' : (mx_uI (f59 S hc) (.inl 1) 2 0).2.1 (.inr (S, 2)) c = 0 := p2
      have p3' : (mx_uI (f59 S hc) (.inl 1) 2 0).2.1 (.inr (S, 3)) c = 0 := p3
      have p4' : (mx_uI (f59 S hc) (.inl 1) 2 0).2.1 (.inr (S, 4)) c = 0 := p4
      rw [p2', p3', p4', U 108 _ (by decide +kernel) (by decide +kernel), U 109 _ (by decide +kernel) (by decide +kernel), U 110 _ (by decide +kernel) (by decide +kernel), q8, q9, q0, (Z c q).1, (Z c q).2]
      exact ⟨rfl, rfl, rfl, Iff.rfl, Iff.rfl⟩
    · refine Or.inl ?_
      rw [show 36 * S + 6 * u + v = 36 * S + (6 * u + v) by omega]
      exact z13 _ (by omega)
    · have : ∀ c ∈ sd_CL, ¬ rz_g g' S c = true := fun c hc1 q => by
        have lt : ∀ c ∈ sd_CL, c < 36 := by decide +kernel
        exact of_decide_eq_true q (z13 c (lt c hc1))
      unfold sd_C
      rw [List.filter_eq_nil_iff.mpr this]
      rfl
  rcases rz_is T k_99 (by omega) (by omega) with ⟨e1, e2, pl⟩ | ⟨e1, e2⟩
  · rw [f87_eq, if_pos e1, if_pos e2]
    obtain ⟨C, c1, E⟩ := rz_corn (L := L) (S := S) 7 (k := 0) (a2 := 0) (by omega) rfl (rz_adv T pl) K t18 t1 S11
    have E1 : rz_FC S (mx_uI (f59 S hc) (.inl 1) 2 0) (x_let (g87_23 S 0 (rz_c (mx_uI (f59 S hc) (.inl 1) 2 0))) (fun g h => g86_17 S g 0 h)).2 := (rz_FCc rz_FC.refl).trans E.1
    refine ⟨C, c1, FC1.trans E1.w, ⟨?_, ?_⟩, (rz_FRr FR1).trans E.2.1, E.2.2⟩
    · exact (E1.2.2.2 S 0 11 (by omega)).trans c11
    · exact (E1.2.2.2 S 0 12 (by omega)).trans c12
  · rw [f87_eq, if_neg e1, if_neg e2]
    refine ⟨1, Nat.le_refl _, ?_⟩
    show rz_G S 1 hc hr (g86_17 S 0 0 (mx_uI (f59 S hc) (.inl 1) 2 0)) (f186 g')
    rw [C86g, if_pos rfl]
    refine ⟨FC1, ⟨c11, c12⟩, rz_FRf FR1 t18, Or.inr ⟨?_, ?_⟩⟩
    · show 0 ≤ (0 : Int32).toInt
      decide
    · rw [G186 t18]
      show 0 ≤ rD g' (.inl 105) 17
      omega
end RY
/-! ===== the two sides: shapes and bodies alike ===== -/
/-- piece k of shape s, of body F + k, lies between u and v -/
def rs_k (hc hr : mx_H) (s C F k u v : Nat) : Prop := u < C ∧ v < C ∧ u ≠ v ∧ rD hc (.inr (s, 5)) k = (min u v : Nat) ∧ rD hc (.inr (s, 6)) k = (max u v : Nat) ∧
  rD hr (.inl 113) (36 * s + 6 * u + v) = ((F + k + 1 : Nat) : Int) ∧ rD hr (.inl 113) (36 * s + 6 * v + u) = ((F + k + 1 : Nat) : Int) ∧ hr.2.1 (.inl 111) (36 * s + 6 * u + v) = hc.2.1 (.inr (s, 7)) k ∧ hr.2.1 (.inl 111) (36 * s + 6 * v + u) = hc.2.1 (.inr (s, 7)) k ∧
  hr.2.1 (.inl 112) (36 * s + 6 * u + v) = hc.2.1 (.inr (s, 8)) k ∧ hr.2.1 (.inl 112) (36 * s + 6 * v + u) = hc.2.1 (.inr (s, 8)) k ∧ rD hr (.inl 117) (F + k) = ((36 * s + 6 * u + v + 1 : Nat) : Int) ∧ rD hc (.inr (s, 8)) k ≤ rD hc (.inr (s, 7)) k
/-- shape s, with C corners, n pieces, the first of them body F -/
def rs_D (hc hr : mx_H) (N s C n F : Nat) : Prop := 1 ≤ C ∧ C ≤ 6 ∧ F + n ≤ N ∧ rD hc (.inr (s, 0)) 0 = C ∧ rD hr (.inl 106) s = C ∧ rD hc (.inr (s, 0)) 6 = n ∧ rD hc (.inr (s, 0)) 5 = F ∧
  (∀ c, c < C → hc.2.1 (.inr (s, 1)) c = hr.2.1 (.inl 107) (6 * s + c) ∧ hc.2.1 (.inr (s, 2)) c = hr.2.1 (.inl 108) (6 * s + c) ∧ hc.2.1 (.inr (s, 3)) c = hr.2.1 (.inl 109) (6 * s + c) ∧ hc.2.1 (.inr (s, 4)) c = hr.2.1 (.inl 110) (6 * s + c)) ∧
  (hc.2.1 (.inr (s, 0)) 11 = hr.2.1 (.inl 114) s ∧ (¬ hr.2.1 (.inl 114) s = -1 → hc.2.1 (.inr (s, 0)) 12 = hr.2.1 (.inl 115) s)) ∧
  (∀ k, k < n → ∃ u v, rs_k hc hr s C F k u v) ∧ (∀ u v, u < 6 → v < 6 → hr.2.1 (.inl 113) (36 * s + 6 * u + v) = 0 ∨ ∃ k, k < n ∧ (rs_k hc hr s C F k u v ∨ rs_k hc hr s C F k v u)) ∧
  n = sd_C sd_CL (rz_g hr s) ∧ ∀ k, k < n → hc.2.2.2 (.inl 92) (F + k) = some (.inr (s, 0))
def rs_S (hc hr : mx_H) (N s : Nat) : Prop := ∃ C n F, rs_D hc hr N s C n F
def rs_B (hc hr : mx_H) (N S : Nat) : Prop := ∀ b, b < N → hc.2.1 (.inl 91) b = hr.2.1 (.inl 116) b ∧ ((hr.2.1 (.inl 117) b = 0 ∧ hc.2.2.2 (.inl 92) b = none) ∨ ∃ s k : Nat, s < S ∧ (k : Int) < rD hc (.inr (s, 0)) 6 ∧ rD hc (.inr (s, 0)) 5 + k = b)
def rs_A (hc hr : mx_H) (S N : Nat) : Prop := S ≤ 12 ∧ N ≤ 200 ∧ rD hc (.inl 0) 2 = S ∧ rD hr (.inl 105) 1 = S ∧ rD hc (.inl 90) 0 = N ∧ rD hr (.inl 105) 12 = N ∧ hc.1 = 167 + 9 * S ∧ hc.2.2.2 (.inl 0) 3 = some (.inr (S, 0)) ∧
  (∀ s, s < S → hc.2.2.2 (.inl 3) s = some (.inr (s, 0)) ∧ rs_S hc hr N s) ∧ rs_B hc hr N S
/-- shape s is as it was -/
def rs_ec (s : Nat) (h h' : mx_H) : Prop := ∀ o i, o < 9 ∧ (o = 0 → i < 13) → h'.2.1 (.inr (s, o)) i = h.2.1 (.inr (s, o)) i
def rs_w (s k i : Nat) : Prop := ((k = 106 ∨ k = 114 ∨ k = 115) ∧ i = s) ∨ ((k = 107 ∨ k = 108 ∨ k = 109 ∨ k = 110) ∧ 6 * s ≤ i ∧ i < 6 * s + 6) ∨ ((k = 111 ∨ k = 112 ∨ k = 113) ∧ 36 * s ≤ i ∧ i < 36 * s + 36)
def rs_er (s : Nat) (h h' : mx_H) : Prop := ∀ k i, rs_w s k i → h'.2.1 (.inl k) i = h.2.1 (.inl k) i
theorem rs_k.x {hc hc' hr hr' : mx_H} {s C F k u v N : Nat} (C6 : C ≤ 6) (hN : F + k < N) (a : rs_ec s hc hc') (b : rs_er s hr hr') (l : ∀ i, i < N → hr'.2.1 (.inl 117) i = hr.2.1 (.inl 117) i) (q : rs_k hc hr s C F k u v) : rs_k hc' hr' s C F k u v := by
  obtain ⟨o1, o2, o3, o4, o5, o6, o7, o8, o9, o10, o11, o12⟩ := q
  unfold rs_k rD
  rw [a 5 k (by omega), a 6 k (by omega), a 7 k (by omega), a 8 k (by omega), b 113 (36 * s + 6 * u + v) (by unfold rs_w; omega), b 113 (36 * s + 6 * v + u) (by unfold rs_w; omega), b 111 (36 * s + 6 * u + v) (by unfold rs_w; omega), b 111 (36 * s + 6 * v + u) (by unfold rs_w; omega), b 112 (36 * s + 6 * u + v) (by unfold rs_w; omega), b 112 (36 * s + 6 * v + u) (by unfold rs_w; omega), l (F + k) hN]
  exact ⟨o1, o2, o3, o4, o5, o6, o7, o8, o9, o10, o11, o12⟩
theorem rs_D.x {hc hc' hr hr' : mx_H} {s C n F N N' : Nat} (hN : N ≤ N') (a : rs_ec s hc hc') (b : rs_er s hr hr') (l : ∀ i, i < N → hr'.2.1 (.inl 117) i = hr.2.1 (.inl 117) i ∧ hc'.2.2.2 (.inl 92) i = hc.2.2.2 (.inl 92) i) (q : rs_D hc hr N s C n F) : rs_D hc' hr' N' s C n F := by
  obtain ⟨c1, c6, fn, d1, d2, d3, d4, d5, d6, d7, d8, d9, d10⟩ := q
  have kx : ∀ k u v, k < n → rs_k hc hr s C F k u v → rs_k hc' hr' s C F k u v := fun k u v hk Q => rs_k.x c6 (N := N) (by omega) a b (fun i hi => (l i hi).1) Q
  refine ⟨c1, c6, by omega, ?_, ?_, ?_, ?_, fun c q => ?_, ?_, fun k hk => ?_, fun u v hu hv => ?_, ?_, fun k hk => ?_⟩
  · unfold rD
    rw [a 0 0 (by omega)]
    exact d1
  · unfold rD
    rw [b 106 s (by unfold rs_w; omega)]
    exact d2
  · unfold rD
    rw [a 0 6 (by omega)]
    exact d3
  · unfold rD
    rw [a 0 5 (by omega)]
    exact d4
  · rw [a 1 c (by omega), a 2 c (by omega), a 3 c (by omega), a 4 c (by omega), b 107 _ (by unfold rs_w; omega), b 108 _ (by unfold rs_w; omega), b 109 _ (by unfold rs_w; omega), b 110 _ (by unfold rs_w; omega)]
    exact d5 c q
  · rw [a 0 11 (by omega), a 0 12 (by omega), b 114 _ (by unfold rs_w; omega), b 115 _ (by unfold rs_w; omega)]
    exact d6
  · obtain ⟨u, v, Q⟩ := d7 k hk
    exact ⟨u, v, kx k u v hk Q⟩
  · rw [b 113 _ (by unfold rs_w; omega)]
    rcases d8 u v hu hv with z | ⟨k, hk, Q⟩
    · exact Or.inl z
    · refine Or.inr ⟨k, hk, ?_⟩
      rcases Q with Q | Q
      · exact Or.inl (kx k _ _ hk Q)
      · exact Or.inr (kx k _ _ hk Q)
  · rw [d9]
    unfold sd_C
    congr 1
    refine List.filter_congr (fun c hc1 => ?_)
    have lt : ∀ c ∈ sd_CL, c < 36 := by decide +kernel
    unfold rz_g
    rw [b 113 (36 * s + c) (by have := lt c hc1; unfold rs_w; omega)]
  · rw [(l (F + k) (by omega)).2]
    exact d10 k hk
/-- the class's reading, whatever is read -/
def rs_h0 (hc : mx_H) (m : Nat) : mx_H := (0, fun a i => if a = .inl 118 then (if (hc.2.1 (.inl 2) i).toInt ≤ 127 then hc.2.1 (.inl 2) i else hc.2.1 (.inl 2) i - 256) else if a = .inl 105 ∧ i = 16 then hc.2.1 (.inl 1) 1 else if a = .inl 105 ∧ i = 1 then nI m else 0, fun _ _ => 0, fun _ _ => none)
theorem C86F {hc : mx_H} {m L : Nat} (hm : m ≤ 12) (L120 : L ≤ 120) (h1 : rD hc (.inl 1) 1 = L) (hb : ∀ i, 0 ≤ rD hc (.inl 2) i ∧ rD hc (.inl 2) i ≤ 255) : rz_FW m hc (f86 m hc).2 := by
  have e16 : (rs_h0 hc m).2.1 (.inl 105) 16 = hc.2.1 (.inl 1) 1 := rfl
  have e1 : (rs_h0 hc m).2.1 (.inl 105) 1 = nI m := rfl
  have e8 : ∀ i, (rs_h0 hc m).2.1 (.inl 118) i = if (hc.2.1 (.inl 2) i).toInt ≤ 127 then hc.2.1 (.inl 2) i else hc.2.1 (.inl 2) i - 256 := fun _ => rfl
  obtain ⟨C, -, E⟩ := rz_text (hc := hc) (hr := rs_h0 hc m) (S := m) L120 h1 (by unfold rD; rw [e16]; exact h1) (fun i _ => by
    obtain ⟨b1, b2⟩ := hb i
    refine ⟨b1, b2, ?_⟩
    unfold rD
    rw [e8]
    by_cases c : (hc.2.1 (.inl 2) i).toInt ≤ 127
    · rw [if_pos c, if_pos c]
    · rw [if_neg c, if_neg c]
      exact i_sub rfl ivt_256 (by unfold rD at b1 b2; omega) (by unfold rD at b1 b2; omega)) (by unfold rD; rw [e1]; exact nI_toInt (by omega)) hm
  exact E.1
/-! ===== a draft becomes a shape, on both sides ===== -/
section RM
variable {h hc hr : mx_H} {S N n C k : Nat}
theorem adn {m o : Nat} (hm : m = 167 + 9 * S + o) (ho : o < 9) : mx_adr m = .inr (S + 1, o) := by
  have e := mx_adr_pos (a := (.inr (S + 1, o) : mx_A)) (Or.inl ho)
  rw [mx_pos_s _ ho, if_neg (by omega)] at e
  rw [show m = 158 + 9 * (S + 1) + o by omega]
  exact e
theorem x_val_s {α β : Type} {p q : α} {f : α → β} {R : β} (e : p = q) (k : f q = R) : x_val p f = R := by
  rw [e]
  exact k
theorem C58 (hn : h.1 = 167 + 9 * S + 1) : f58 (.inr (S + 1, 0)) h = sn_h h (S + 1) := by
  rw [f58_eq]
  refine x_val_s (adn (S := S) (o := 1) (show h.1 = 167 + 9 * S + 1 from hn) (by decide +kernel)) ?_
  refine x_val_s (adn (S := S) (o := 2) (show h.1 + 1 = 167 + 9 * S + 2 by omega) (by decide +kernel)) ?_
  refine x_val_s (adn (S := S) (o := 3) (show h.1 + 1 + 1 = 167 + 9 * S + 3 by omega) (by decide +kernel)) ?_
  refine x_val_s (adn (S := S) (o := 4) (show h.1 + 1 + 1 + 1 = 167 + 9 * S + 4 by omega) (by decide +kernel)) ?_
  refine x_val_s (adn (S := S) (o := 5) (show h.1 + 1 + 1 + 1 + 1 = 167 + 9 * S + 5 by omega) (by decide +kernel)) ?_
  refine x_val_s (adn (S := S) (o := 6) (show h.1 + 1 + 1 + 1 + 1 + 1 = 167 + 9 * S + 6 by omega) (by decide +kernel)) ?_
  refine x_val_s (adn (S := S) (o := 7) (show h.1 + 1 + 1 + 1 + 1 + 1 + 1 = 167 + 9 * S + 7 by omega) (by decide +kernel)) ?_
  refine x_val_s (adn (S := S) (o := 8) (show h.1 + 1 + 1 + 1 + 1 + 1 + 1 + 1 = 167 + 9 * S + 8 by omega) (by decide +kernel)) ?_
  rfl
/-- a body more -/
def k_b (h : mx_H) (N S : Nat) : mx_H := mx_uI (mx_uR (mx_uI h (.inl 91) N 1) (.inl 92) N (some (.inr (S, 0)))) (.inl 90) 0 (h.2.1 (.inl 90) 0 + 1)
theorem C37 (hN : rD h (.inl 90) 0 = N) (n2 : N < 200) : (f37 1 S h).2 = k_b h N S := by
  rw [f37_eq, if_pos (i_lt hN k_200 (by omega))]
  show mx_uI (mx_uR (mx_uI h (.inl 91) (Int32.toNatClampNeg (h.2.1 (.inl 90) 0)) 1) (.inl 92) (Int32.toNatClampNeg (h.2.1 (.inl 90) 0)) (some (.inr (S, 0)))) (.inl 90) 0 (h.2.1 (.inl 90) 0 + 1) = _
  rw [i_cl hN]
  rfl
/-- what bodies do: nothing else -/
def k_B (h g : mx_H) (N M S : Nat) : Prop := g.1 = h.1 ∧ (∀ q i, g.2.1 (.inr q) i = h.2.1 (.inr q) i) ∧ (∀ k i, k ≠ 90 → k ≠ 91 → g.2.1 (.inl k) i = h.2.1 (.inl k) i) ∧ rD g (.inl 90) 0 = M ∧ (∀ k i, k ≠ 92 → g.2.2.2 (.inl k) i = h.2.2.2 (.inl k) i) ∧
  (∀ i, i < N → g.2.1 (.inl 91) i = h.2.1 (.inl 91) i ∧ g.2.2.2 (.inl 92) i = h.2.2.2 (.inl 92) i) ∧ ∀ i, N ≤ i → i < M → g.2.1 (.inl 91) i = 1 ∧ g.2.2.2 (.inl 92) i = some (.inr (S, 0))
theorem k_B.b {g : mx_H} {M : Nat} (B : k_B h g N M S) (hM : M < 200) (NM : N ≤ M) : k_B h (k_b g M S) N (M + 1) S := by
  obtain ⟨b1, b2, b3, b4, b5, b6, b7⟩ := B
  have r91 : ∀ i, (k_b g M S).2.1 (.inl 91) i = if i = M then 1 else g.2.1 (.inl 91) i := fun i => by
    show (mx_uI g (.inl 91) M 1).2.1 (.inl 91) i = _
    by_cases e : i = M
    · rw [if_pos e, rI_c rfl e]
    · rw [if_neg e, rI_i e]
  have r92 : ∀ i, (k_b g M S).2.2.2 (.inl 92) i = if i = M then some (.inr (S, 0)) else g.2.2.2 (.inl 92) i := fun i => by
    show (if (Sum.inl 92 : mx_A) = .inl 92 ∧ i = M then some (.inr (S, 0)) else g.2.2.2 (.inl 92) i) = _
    by_cases e : i = M
    · rw [if_pos e, if_pos ⟨rfl, e⟩]
    · rw [if_neg e, if_neg (fun q => e q.2)]
  refine ⟨b1, b2, fun k i q1 q2 => ?_, ?_, fun k i q => ?_, fun i hi => ?_, fun i h1 h2 => ?_⟩
  · show (mx_uI (mx_uR (mx_uI g (.inl 91) M 1) (.inl 92) M (some (.inr (S, 0)))) (.inl 90) 0 (g.2.1 (.inl 90) 0 + 1)).2.1 (.inl k) i = _
    rw [rN q1]
    show (mx_uI g (.inl 91) M 1).2.1 (.inl k) i = _
    rw [rN q2]
    exact b3 k i q1 q2
  · show (g.2.1 (.inl 90) 0 + 1).toInt = _
    rw [i_add b4 k_1 (by omega) (by omega)]
    omega
  · show (if (Sum.inl k : mx_A) = .inl 92 ∧ i = M then some (.inr (S, 0)) else g.2.2.2 (.inl k) i) = _
    rw [if_neg (fun e => q (Sum.inl.inj e.1))]
    exact b5 k i q
  · rw [r91, r92, if_neg (by omega), if_neg (by omega)]
    exact b6 i hi
  · rw [r91, r92]
    by_cases e : i = M
    · rw [if_pos e, if_pos e]
      exact ⟨rfl, rfl⟩
    · rw [if_neg e, if_neg e]
      exact b7 i h1 (by omega)
/-- the new shape's heap -/
def k_G (g : mx_H) (S : Nat) : mx_H := mx_uI (mx_uR g (.inl 3) S (some (.inr (S, 0)))) (.inl 0) 2 (g.2.1 (.inl 0) 2 + 1)
def k_N (g : mx_H) (S : Nat) : mx_H := mx_uR (sn_f (k_G g S) (S + 1)) (.inl 0) 3 (some (.inr (S + 1, 0)))
theorem C169g (S11 : S ≤ 11) : ∀ (j k : Nat) (a1 : Int32) {h g : mx_H}, k + j = n → a1.toInt = (k : Int) → n ≤ 15 → N + n ≤ 200 → rD h (.inr (S, 0)) 6 = n → h.2.2.2 (.inl 0) 3 = some (.inr (S, 0)) → rD h (.inl 0) 2 = S → h.1 = 167 + 9 * S → k_B h g N (N + k) S →
    ∃ g', k_B h g' N (N + n) S ∧ g169_16 a1 g = (g'.2.1 (.inl 0) 2 + 1 - 1, k_N g' S)
  | j, k, a1, h, g, e, ha, n15, nn, hp, hd, hs, h1, B => by
    have p6 : rD g (.inr (S, 0)) 6 = n := by
      unfold rD
      rw [B.2.1]
      exact hp
    have d3 : g.2.2.2 (.inl 0) 3 = some (.inr (S, 0)) := by
      rw [B.2.2.2.2.1 0 3 (by decide +kernel)]
      exact hd
    have s2 : rD g (.inl 0) 2 = S := by
      unfold rD
      rw [B.2.2.1 0 2 (by decide +kernel) (by decide +kernel)]
      exact hs
    have g1 : g.1 = 167 + 9 * S := B.1.trans h1
    rw [g169_16_eq, d3]
    match j, e with
    | 0, e =>
      refine ⟨g, (show N + k = N + n by omega) ▸ B, ?_⟩
      show (if g.2.1 (.inr (S, 0)) 6 ≤ a1 then (x_val (mx_adr (mx_uI (mx_uR g (.inl 3) (Int32.toNatClampNeg (g.2.1 (.inl 0) 2)) (some (.inr (S, 0)))) (.inl 0) 2 (g.2.1 (.inl 0) 2 + 1)).1) (fun y3 => x_h (f58 y3 (mx_nw (mx_uI (mx_uR g (.inl 3) (Int32.toNatClampNeg (g.2.1 (.inl 0) 2)) (some (.inr (S, 0)))) (.inl 0) 2 (g.2.1 (.inl 0) 2 + 1)) y3)) (fun h5 => ((mx_uR h5 (.inl 0) 3 (some y3)).2.1 (.inl 0) 2 - 1, mx_uR h5 (.inl 0) 3 (some y3))))) else _) = _
      rw [if_pos (i_le p6 ha (by omega)), i_cl s2]
      refine x_val_s (adn (o := 0) (show g.1 = _ from g1) (by decide +kernel)) ?_
      show ((mx_uR (f58 (.inr (S + 1, 0)) (mx_nw (k_G g S) (.inr (S + 1, 0)))) (.inl 0) 3 (some (.inr (S + 1, 0)))).2.1 (.inl 0) 2 - 1, mx_uR (f58 (.inr (S + 1, 0)) (mx_nw (k_G g S) (.inr (S + 1, 0)))) (.inl 0) 3 (some (.inr (S + 1, 0)))) = _
      rw [C58 (S := S) (show g.1 + 1 = _ by omega)]
      rfl
    | j + 1, e =>
      have c : rD g (.inl 90) 0 = (N + k : Nat) := B.2.2.2.1
      show ∃ g', k_B h g' N (N + n) S ∧ (if g.2.1 (.inr (S, 0)) 6 ≤ a1 then _ else g169_16 (a1 + 1) (f37 1 S g).2) = (g'.2.1 (.inl 0) 2 + 1 - 1, k_N g' S)
      rw [if_neg (i_nle p6 ha (by omega)), C37 c (by omega)]
      exact C169g S11 j (k + 1) (a1 + 1) (by omega) (by rw [i_add ha k_1 (by omega) (by omega)]; omega) n15 nn hp hd hs h1 (B.b (by omega) (by omega))
end RM
/-! ===== bear, on the reference's side ===== -/
section RB
variable {h hc hr g : mx_H} {S N n C k : Nat}
theorem R193 {s x y : Int32} {u v : Nat} (hs : s.toInt = (S : Int)) (hx : x.toInt = (u : Int)) (hy : y.toInt = (v : Int)) (hN : rD h (.inl 105) 12 = N) (S12 : S ≤ 12) (hu : u < 6) (hv : v < 6) :
    f193 s x y h = mx_uI (k_p (k_p (mx_uI (mx_uI h (.inl 116) N 1) (.inl 117) N (f179 s x y + 1)) (36 * S + 6 * u + v) (h.2.1 (.inl 105) 12) (h.2.1 (.inl 111) (36 * S + 6 * u + v)) (h.2.1 (.inl 112) (36 * S + 6 * u + v))) (36 * S + 6 * v + u) (h.2.1 (.inl 105) 12) (h.2.1 (.inl 111) (36 * S + 6 * u + v)) (h.2.1 (.inl 112) (36 * S + 6 * u + v))) (.inl 105) 12 (h.2.1 (.inl 105) 12 + 1) := by
  rw [f193_eq]
  show x_h (f181 s x y (h.2.1 (.inl 105) 12) (h.2.1 (.inl 111) (Int32.toNatClampNeg (f179 s x y))) (h.2.1 (.inl 112) (Int32.toNatClampNeg (f179 s x y))) (mx_uI (mx_uI h (.inl 116) (Int32.toNatClampNeg (h.2.1 (.inl 105) 12)) 1) (.inl 117) (Int32.toNatClampNeg (h.2.1 (.inl 105) 12)) (f179 s x y + 1))) (fun h11 => mx_uI h11 (.inl 105) 12 (h11.2.1 (.inl 105) 12 + 1)) = _
  rw [k181 hs hx hy S12 hu hv, i_cl (w179 hs hx hy S12 hu hv), i_cl hN]
  rfl
/-- k pieces are born -/
def k_R (hc hr g : mx_H) (S C N k : Nat) : Prop := g.1 = hr.1 ∧ g.2.2 = hr.2.2 ∧ (∀ q i, g.2.1 (.inr q) i = hr.2.1 (.inr q) i) ∧ rD g (.inl 105) 12 = ((N + k : Nat) : Int) ∧ (∀ i, i ≠ 12 → g.2.1 (.inl 105) i = hr.2.1 (.inl 105) i) ∧
  (∀ a i, a ≠ 105 → a ≠ 113 → a ≠ 116 → a ≠ 117 → g.2.1 (.inl a) i = hr.2.1 (.inl a) i) ∧ (∀ i, i < N → g.2.1 (.inl 116) i = hr.2.1 (.inl 116) i ∧ g.2.1 (.inl 117) i = hr.2.1 (.inl 117) i) ∧
  (∀ q, q < k → g.2.1 (.inl 116) (N + q) = 1 ∧ ∀ u v, rz_k hc hr S C q u v → rD g (.inl 113) (36 * S + 6 * u + v) = ((N + q + 1 : Nat) : Int) ∧ rD g (.inl 113) (36 * S + 6 * v + u) = ((N + q + 1 : Nat) : Int) ∧ rD g (.inl 117) (N + q) = ((36 * S + 6 * u + v + 1 : Nat) : Int)) ∧
  ∀ i, (∀ q u v, q < k → rz_k hc hr S C q u v → i ≠ 36 * S + 6 * u + v ∧ i ≠ 36 * S + 6 * v + u) → g.2.1 (.inl 113) i = hr.2.1 (.inl 113) i
theorem k_R.s {s x y : Int32} {u v : Nat} (K : rz_C hc hr S C n) (R : k_R hc hr g S C N k) (hk : k < n) (Q : rz_k hc hr S C k u v) (hs : s.toInt = (S : Int)) (hx : x.toInt = (u : Int)) (hy : y.toInt = (v : Int)) (S12 : S ≤ 12) (nn : N + n ≤ 200) : k_R hc hr (f193 s x y g) S C N (k + 1) := by
  obtain ⟨C6, -, -, -, -, -, -, kP1, kP2, kP3, kP4⟩ := K
  obtain ⟨r1, r2, r3, r4, r5, r6, r7, r8, r9⟩ := R
  have hu : u < 6 := by have := Q.1; omega
  have hv : v < 6 := by have := Q.2.1; omega
  have hne := Q.2.2.1
  have w := w179 hs hx hy S12 hu hv
  rw [R193 hs hx hy r4 S12 hu hv]
  generalize hG : mx_uI (k_p (k_p (mx_uI (mx_uI g (.inl 116) (N + k) 1) (.inl 117) (N + k) (f179 s x y + 1)) (36 * S + 6 * u + v) (g.2.1 (.inl 105) 12) (g.2.1 (.inl 111) (36 * S + 6 * u + v)) (g.2.1 (.inl 112) (36 * S + 6 * u + v))) (36 * S + 6 * v + u) (g.2.1 (.inl 105) 12) (g.2.1 (.inl 111) (36 * S + 6 * u + v)) (g.2.1 (.inl 112) (36 * S + 6 * u + v))) (.inl 105) 12 (g.2.1 (.inl 105) 12 + 1) = G
  have g113 : ∀ i, G.2.1 (.inl 113) i = if i = 36 * S + 6 * v + u then g.2.1 (.inl 105) 12 + 1 else if i = 36 * S + 6 * u + v then g.2.1 (.inl 105) 12 + 1 else g.2.1 (.inl 113) i := fun i => by
    rw [← hG, rN (show (113 : Nat) ≠ 105 by decide +kernel), k_p3, k_p3, rN (show (113 : Nat) ≠ 117 by decide +kernel), rN (show (113 : Nat) ≠ 116 by decide +kernel)]
  have g111 : ∀ i, G.2.1 (.inl 111) i = if i = 36 * S + 6 * v + u then g.2.1 (.inl 111) (36 * S + 6 * u + v) else if i = 36 * S + 6 * u + v then g.2.1 (.inl 111) (36 * S + 6 * u + v) else g.2.1 (.inl 111) i := fun i => by
    rw [← hG, rN (show (111 : Nat) ≠ 105 by decide +kernel), k_p1, k_p1, rN (show (111 : Nat) ≠ 117 by decide +kernel), rN (show (111 : Nat) ≠ 116 by decide +kernel)]
  have g112 : ∀ i, G.2.1 (.inl 112) i = if i = 36 * S + 6 * v + u then g.2.1 (.inl 112) (36 * S + 6 * u + v) else if i = 36 * S + 6 * u + v then g.2.1 (.inl 112) (36 * S + 6 * u + v) else g.2.1 (.inl 112) i := fun i => by
    rw [← hG, rN (show (112 : Nat) ≠ 105 by decide +kernel), k_p2, k_p2, rN (show (112 : Nat) ≠ 117 by decide +kernel), rN (show (112 : Nat) ≠ 116 by decide +kernel)]
  have g116 : ∀ i, G.2.1 (.inl 116) i = if i = N + k then 1 else g.2.1 (.inl 116) i := fun i => by
    rw [← hG]
    show (mx_uI g (.inl 116) (N + k) 1).2.1 (.inl 116) i = _
    by_cases e : i = N + k
    · rw [if_pos e, rI_c rfl e]
    · rw [if_neg e, rI_i e]
  have g117 : ∀ i, G.2.1 (.inl 117) i = if i = N + k then f179 s x y + 1 else g.2.1 (.inl 117) i := fun i => by
    rw [← hG]
    show (mx_uI (mx_uI g (.inl 116) (N + k) 1) (.inl 117) (N + k) (f179 s x y + 1)).2.1 (.inl 117) i = _
    by_cases e : i = N + k
    · rw [if_pos e, rI_c rfl e]
    · rw [if_neg e, rI_i e]
      rfl
  have go : ∀ q i, q ≠ 105 → q ≠ 111 → q ≠ 112 → q ≠ 113 → q ≠ 116 → q ≠ 117 → G.2.1 (.inl q) i = g.2.1 (.inl q) i := fun q i q0 q1 q2 q3 q4 q5 => by
    rw [← hG, rN q0, k_po q1 q2 q3, k_po q1 q2 q3, rN q5, rN q4]
  have bo : (g.2.1 (.inl 105) 12 + 1).toInt = ((N + k + 1 : Nat) : Int) := by
    rw [i_add r4 k_1 (by omega) (by omega)]
    omega
  have far : ∀ q u' v', q < k → rz_k hc hr S C q u' v' → (36 * S + 6 * u' + v' ≠ 36 * S + 6 * u + v ∧ 36 * S + 6 * u' + v' ≠ 36 * S + 6 * v + u) ∧ (36 * S + 6 * v' + u' ≠ 36 * S + 6 * u + v ∧ 36 * S + 6 * v' + u' ≠ 36 * S + 6 * v + u) := fun q u' v' hq Q' => by
    have t := kP4 k q u v hk (by omega) (by omega) Q
    have a1 := Q'.1
    have a2 := Q'.2.1
    have n1 : ¬ (u' = u ∧ v' = v) := fun e => t.1 (by rw [← e.1, ← e.2]; exact Q')
    have n2 : ¬ (u' = v ∧ v' = u) := fun e => t.2 (by rw [← e.1, ← e.2]; exact Q')
    omega
  have st : ∀ i, G.2.1 (.inl 111) i = hr.2.1 (.inl 111) i := fun i => by
    rw [g111, r6 111 _ (by decide +kernel) (by decide +kernel) (by decide +kernel) (by decide +kernel), r6 111 _ (by decide +kernel) (by decide +kernel) (by decide +kernel) (by decide +kernel)]
    have q1 := Q.2.2.2.2.2.2.2.2.2.1
    have q2 := Q.2.2.2.2.2.2.2.2.2.2.1
    by_cases e : i = 36 * S + 6 * v + u
    · rw [if_pos e, e, q1, q2]
    · rw [if_neg e]
      by_cases e2 : i = 36 * S + 6 * u + v
      · rw [if_pos e2, e2]
      · rw [if_neg e2]
  have cr : ∀ i, G.2.1 (.inl 112) i = hr.2.1 (.inl 112) i := fun i => by
    rw [g112, r6 112 _ (by decide +kernel) (by decide +kernel) (by decide +kernel) (by decide +kernel), r6 112 _ (by decide +kernel) (by decide +kernel) (by decide +kernel) (by decide +kernel)]
    have q1 := Q.2.2.2.2.2.2.2.2.2.2.2.1
    have q2 := Q.2.2.2.2.2.2.2.2.2.2.2.2.1
    by_cases e : i = 36 * S + 6 * v + u
    · rw [if_pos e, e, q1, q2]
    · rw [if_neg e]
      by_cases e2 : i = 36 * S + 6 * u + v
      · rw [if_pos e2, e2]
      · rw [if_neg e2]
  refine ⟨?_, ?_, fun q i => ?_, ?_, fun i hi => ?_, fun a i a1 a2 a3 a4 => ?_, fun i hi => ?_, fun q hq => ?_, fun i hi => ?_⟩
  · rw [← hG]
    exact r1
  · rw [← hG]
    exact r2
  · rw [← hG]
    exact r3 q i
  · unfold rD
    rw [← hG, rI_s, bo]
    omega
  · rw [← hG, rI_i hi]
    exact r5 i hi
  · by_cases e1 : a = 111
    · subst e1
      exact st i
    · by_cases e2 : a = 112
      · subst e2
        exact cr i
      · rw [go a i a1 e1 e2 a2 a3 a4]
        exact r6 a i a1 a2 a3 a4
  · rw [g116, g117, if_neg (by omega), if_neg (by omega)]
    exact r7 i hi
  · by_cases e : q = k
    · subst e
      rw [g116, if_pos rfl]
      refine ⟨rfl, fun u' v' Q' => ?_⟩
      have e1 : u' = u := by
        have a1 := Q.2.2.2.1
        have a2 := Q'.2.2.2.1
        omega
      have e2 : v' = v := by
        have a1 := Q.2.2.2.2.1
        have a2 := Q'.2.2.2.2.1
        omega
      subst e1
      subst e2
      unfold rD
      rw [g113, g113, g117, if_pos rfl, if_pos rfl, if_neg (show ¬ 36 * S + 6 * u' + v' = 36 * S + 6 * v' + u' by omega), if_pos rfl]
      refine ⟨bo, bo, ?_⟩
      rw [i_add w k_1 (by omega) (by omega)]
      omega
    · obtain ⟨b1, b2⟩ := r8 q (by omega)
      rw [g116, if_neg (by omega)]
      refine ⟨b1, fun u' v' Q' => ?_⟩
      obtain ⟨⟨f1, f2⟩, f3, f4⟩ := far q u' v' (by omega) Q'
      unfold rD
      rw [g113, g113, g117, if_neg f2, if_neg f1, if_neg f4, if_neg f3, if_neg (by omega)]
      exact b2 u' v' Q'
  · have t := hi k u v (by omega) Q
    rw [g113, if_neg t.2, if_neg t.1]
    exact r9 i (fun q u' v' hq Q' => hi q u' v' (by omega) Q')
/-- the reference's new shape -/
def k_M (g : mx_H) (S : Nat) : mx_H := mx_uI (mx_uI g (.inl 114) S (-1)) (.inl 105) 1 (g.2.1 (.inl 105) 1 + 1)
theorem R194g (K : rz_C hc hr S C n) (S12 : S ≤ 12) (nn : N + n ≤ 200) (hS : rD hr (.inl 105) 1 = S) : ∀ (j k : Nat) (a1 : Int32) {g : mx_H}, k + j = n → a1.toInt = (k : Int) → k_R hc hr g S C N k → ∃ g', k_R hc hr g' S C N n ∧ g194_61 a1 g = (g'.2.1 (.inl 105) 1 + 1 - 1, k_M g' S)
  | 0, k, a1, g, e, ha, R => by
    have e' : k = n := by omega
    subst e'
    have s1 : rD g (.inl 105) 1 = S := by
      unfold rD
      rw [R.2.2.2.2.1 1 (by decide +kernel)]
      exact hS
    have s19 : rD g (.inl 105) 19 = k := by
      unfold rD
      rw [R.2.2.2.2.1 19 (by decide +kernel)]
      exact K.2.2.2.2.1
    refine ⟨g, R, ?_⟩
    rw [g194_61_eq, if_pos (i_le s19 ha (by omega)), i_cl s1]
    rfl
  | j + 1, k, a1, g, e, ha, R => by
    have s1 : rD g (.inl 105) 1 = S := by
      unfold rD
      rw [R.2.2.2.2.1 1 (by decide +kernel)]
      exact hS
    have s19 : rD g (.inl 105) 19 = n := by
      unfold rD
      rw [R.2.2.2.2.1 19 (by decide +kernel)]
      exact K.2.2.2.2.1
    obtain ⟨u, v, Q⟩ := K.2.2.2.2.2.2.2.1 k (by omega)
    have hx : (g.2.1 (.inl 119) k).toInt = (u : Int) := by
      rw [R.2.2.2.2.2.1 119 k (by decide +kernel) (by decide +kernel) (by decide +kernel) (by decide +kernel)]
      exact Q.2.2.2.1
    have hy : (g.2.1 (.inl 120) k).toInt = (v : Int) := by
      rw [R.2.2.2.2.2.1 120 k (by decide +kernel) (by decide +kernel) (by decide +kernel) (by decide +kernel)]
      exact Q.2.2.2.2.1
    rw [g194_61_eq, if_neg (i_nle s19 ha (by omega)), i_cl ha]
    show ∃ g', k_R hc hr g' S C N n ∧ g194_61 (a1 + 1) (f193 (g.2.1 (.inl 105) 1) (g.2.1 (.inl 119) k) (g.2.1 (.inl 120) k) g) = (g'.2.1 (.inl 105) 1 + 1 - 1, k_M g' S)
    exact R194g K S12 nn hS j (k + 1) (a1 + 1) (by omega) (by rw [i_add ha k_1 (by omega) (by omega)]; omega) (R.s K (by omega) Q s1 hx hy S12 nn)
theorem k_R.z (K : rz_C hc hr S C n) (hN : rD hr (.inl 105) 12 = N) : k_R hc hr hr S C N 0 := ⟨rfl, rfl, fun _ _ => rfl, hN, fun _ _ => rfl, fun _ _ _ _ _ _ => rfl, fun _ _ => ⟨rfl, rfl⟩, fun q hq => absurd hq (Nat.not_lt_zero _), fun _ _ => rfl⟩
end RB
/-! ===== shape(): both sides stay alike ===== -/
/-- the tapes are alike -/
def rs_T (hc hr : mx_H) : Prop := ∃ L : Nat, L ≤ 120 ∧ rD hc (.inl 1) 1 = L ∧ rD hr (.inl 105) 16 = L ∧ ∀ i, i < L → rz_b (rD hc (.inl 2) i) (rD hr (.inl 118) i)
section RH
variable {h hc hr hc' hr' gc gr : mx_H} {S N n C k : Nat}
theorem rs_ecF (F : rz_FW S hc hc') {s : Nat} (hs : s < S) : rs_ec s hc hc' := fun o i _ => F.2.2.2 s o i (by omega)
theorem rs_erF (F : rz_FR S hr hr') {s : Nat} (hs : s < S) : rs_er s hr hr' := fun k i w => F.2.2.2 k i (by unfold rs_w at w; unfold rz_w; omega)
theorem rR (h : mx_H) (a : mx_A) (i : Nat) (r : Option mx_A) (b : mx_A) (j : Nat) : (mx_uR h a i r).2.2.2 b j = if b = a ∧ j = i then r else h.2.2.2 b j := rfl
/-- what the relation reads is as it was -/
def rs_u (S : Nat) (h h' : mx_H) : Prop := h'.1 = h.1 ∧ h'.2.2.2 (.inl 0) 3 = h.2.2.2 (.inl 0) 3 ∧ (∀ i, h'.2.2.2 (.inl 3) i = h.2.2.2 (.inl 3) i) ∧ (∀ i, h'.2.2.2 (.inl 92) i = h.2.2.2 (.inl 92) i) ∧ h'.2.1 (.inl 0) 2 = h.2.1 (.inl 0) 2 ∧ h'.2.1 (.inl 90) 0 = h.2.1 (.inl 90) 0 ∧ (∀ i, h'.2.1 (.inl 91) i = h.2.1 (.inl 91) i) ∧ ∀ s, s < S → rs_ec s h h'
def rs_v (S : Nat) (h h' : mx_H) : Prop := h'.2.1 (.inl 105) 1 = h.2.1 (.inl 105) 1 ∧ h'.2.1 (.inl 105) 12 = h.2.1 (.inl 105) 12 ∧ (∀ i, h'.2.1 (.inl 116) i = h.2.1 (.inl 116) i) ∧ (∀ i, h'.2.1 (.inl 117) i = h.2.1 (.inl 117) i) ∧ ∀ s, s < S → rs_er s h h'
theorem rs_A.g (A : rs_A hc hr S N) (a : rs_u S hc hc') (b : rs_v S hr hr') : rs_A hc' hr' S N := by
  obtain ⟨a1, a2, a3, a4, a5, a6, a7, a8, a9, a10⟩ := A
  obtain ⟨u1, u2, u3, u4, u5, u6, u7, u8⟩ := a
  obtain ⟨v1, v2, v3, v4, v5⟩ := b
  refine ⟨a1, a2, ?_, ?_, ?_, ?_, u1.trans a7, u2.trans a8, fun s hs => ⟨(u3 s).trans (a9 s hs).1, ?_⟩, fun i hi => ?_⟩
  · unfold rD
    rw [u5]
    exact a3
  · unfold rD
    rw [v1]
    exact a4
  · unfold rD
    rw [u6]
    exact a5
  · unfold rD
    rw [v2]
    exact a6
  · obtain ⟨C, n, F, D⟩ := (a9 s hs).2
    exact ⟨C, n, F, D.x (Nat.le_refl _) (u8 s hs) (v5 s hs) (fun i _ => ⟨v4 i, u4 i⟩)⟩
  · rw [u7 i, v3 i, v4 i, u4 i]
    obtain ⟨b1, b2⟩ := a10 i hi
    refine ⟨b1, ?_⟩
    rcases b2 with q | ⟨s, k, q1, q2, q3⟩
    · exact Or.inl q
    · refine Or.inr ⟨s, k, q1, ?_, ?_⟩
      · unfold rD
        rw [u8 s q1 0 6 (by omega)]
        exact q2
      · unfold rD
        rw [u8 s q1 0 5 (by omega)]
        exact q3
theorem rz_FW.u (a : rz_FW S hc hc') : rs_u S hc hc' := by
  have e : hc'.2.2.2 = hc.2.2.2 := congrArg Prod.snd a.2.1
  exact ⟨a.1, by rw [e], fun i => by rw [e], fun i => by rw [e], a.2.2.1 0 2 (by omega), a.2.2.1 90 0 (by omega), fun i => a.2.2.1 91 i (by omega), fun s hs => rs_ecF a hs⟩
theorem rz_FR.v (b : rz_FR S hr hr') : rs_v S hr hr' := ⟨b.2.2.2 105 1 (by unfold rz_w; omega), b.2.2.2 105 12 (by unfold rz_w; omega), fun i => b.2.2.2 116 i (by unfold rz_w; omega), fun i => b.2.2.2 117 i (by unfold rz_w; omega), fun s hs => rs_erF b hs⟩
/-- what is read or thrown away in the draft does not matter -/
theorem rs_A.f (A : rs_A hc hr S N) (a : rz_FW S hc hc') (b : rz_FR S hr hr') : rs_A hc' hr' S N := A.g a.u b.v
theorem C103 (hd : h.2.2.2 (.inl 0) 3 = some (.inr (S, 0))) (F : rz_FW S h (f86 S h).2) : f103 h = if (f86 S h).1 < 0 then (if f168 ((f86 S h).2.2.1 (.inr (S, 0)) 6) (f86 S h).2 = 0 then f169 (mx_uI (f86 S h).2 (.inl 1) 1 0) else (-3, (f86 S h).2)) else (-100 - (f86 S h).1, mx_uI (f86 S h).2 (.inl 1) 1 0) := by
  have e : (f86 S h).2.2.2.2 (.inl 0) 3 = some (.inr (S, 0)) := by
    rw [show (f86 S h).2.2.2.2 = h.2.2.2 from congrArg Prod.snd F.2.1]
    exact hd
  rw [f103_eq, hd]
  show (if (f86 S h).1 < 0 then x_opt (ml_sn ((f86 S h).2.2.2.2 (.inl 0) 3)) (fun j5 => if f168 ((f86 S h).2.2.1 (.inr (j5, 0)) 6) (f86 S h).2 = 0 then f169 (mx_uI (f86 S h).2 (.inl 1) 1 0) else (-3, (f86 S h).2)) (0, h) else (-100 - (f86 S h).1, mx_uI (f86 S h).2 (.inl 1) 1 0)) = _
  rw [e]
  rfl
theorem C169 (hd : h.2.2.2 (.inl 0) 3 = some (.inr (S, 0))) : f169 h = g169_16 0 (mx_uI h (.inr (S, 0)) 5 (h.2.1 (.inl 90) 0)) := by
  rw [f169_eq, hd]
  rfl
theorem C168 {a : Int32} {p : Nat} (hs : rD h (.inl 0) 2 = S) (hn : rD h (.inl 90) 0 = N) (ha : a.toInt = (p : Int)) (S12 : S ≤ 12) (N2 : N ≤ 200) (p2 : p ≤ 100) : (S ≤ 11 ∧ N + p ≤ 200 ∧ f168 a h = 0) ∨ (¬ (S ≤ 11 ∧ N + p ≤ 200) ∧ f168 a h = 1) := by
  rw [f168_eq]
  by_cases c : 12 ≤ S
  · rw [if_pos (i_le k_12 hs (by omega))]
    exact Or.inr ⟨by omega, rfl⟩
  · rw [if_neg (i_nle k_12 hs (by omega))]
    have e := i_add hn ha (by omega) (by omega)
    by_cases c2 : N + p ≤ 200
    · rw [if_pos (i_le e k_200 (by omega))]
      exact Or.inl ⟨by omega, c2, rfl⟩
    · rw [if_neg (i_nle e k_200 (by omega))]
      exact Or.inr ⟨by omega, rfl⟩
/-- a shape more -/
theorem rs_more {hx : mx_H} (A : rs_A hc hr S N) (S11 : S ≤ 11) (nn : N + n ≤ 200) (C1 : 1 ≤ C) (K : rz_C hc' hr' S C n) (a : rz_FW S hc hc') (b : rz_FR S hr hr') (o1 : hc'.2.1 (.inr (S, 0)) 11 = -1)
    (hst : ∀ q, 0 ≤ rD hc' (.inr (S, 7)) q) (hX : hx = mx_uI hc' (.inr (S, 0)) 5 (hc'.2.1 (.inl 90) 0)) (B : k_B hx gc N (N + n) S) (R : k_R hc' hr' gr S C N n) : rs_A (k_N gc S) (k_M gr S) (S + 1) (N + n) := by
  obtain ⟨a1, a2, a3, a4, a5, a6, a7, a8, a9, a10⟩ := A
  obtain ⟨C6, k1, k2, k3, k4, k5, k6, kP1, kP2, kP3, kP4⟩ := id K
  obtain ⟨b1, b2, b3, b4, b5, b6, b7⟩ := B
  obtain ⟨r1, r2, r3, r4, r5, r6, r7, r8, r9⟩ := R
  have xl : ∀ q i, hx.2.1 (.inl q) i = hc'.2.1 (.inl q) i := fun q i => by rw [hX]; rfl
  have xr : hx.2.2.2 = hc.2.2.2 := by
    rw [hX]
    exact congrArg Prod.snd a.2.1
  have x0 : ∀ o i, ¬ (o = 0 ∧ i = 5) → hx.2.1 (.inr (S, o)) i = hc'.2.1 (.inr (S, o)) i := fun o i q => by
    rw [hX]
    refine if_neg (fun e => q ⟨?_, e.2⟩)
    have e1 := e.1
    cases e1
    rfl
  have x5 : rD hx (.inr (S, 0)) 5 = N := by
    unfold rD
    rw [hX, rI_s, a.2.2.1 90 0 (by decide +kernel)]
    exact a5
  have xs : ∀ s o i, s ≠ S → o < 9 → hx.2.1 (.inr (s, o)) i = hc.2.1 (.inr (s, o)) i := fun s o i q ho => by
    rw [hX]
    refine (if_neg (fun e => q ?_)).trans (a.2.2.2 s o i (by omega))
    have e1 := e.1
    cases e1
    rfl
  have ni : ∀ s o i, s ≤ S → (k_N gc S).2.1 (.inr (s, o)) i = hx.2.1 (.inr (s, o)) i := fun s o i q => by
    show (sn_f (k_G gc S) (S + 1)).2.1 (.inr (s, o)) i = _
    rw [sn_io i (by omega)]
    exact b2 (s, o) i
  have nl : ∀ q i, ¬ (q = 0 ∧ i = 2) → (k_N gc S).2.1 (.inl q) i = gc.2.1 (.inl q) i := fun q i e => by
    show (k_G gc S).2.1 (.inl q) i = _
    exact if_neg (fun z => e ⟨Sum.inl.inj z.1, z.2⟩)
  have nr : ∀ q i, ¬ (q = 0 ∧ i = 3) → ¬ (q = 3 ∧ i = S) → (k_N gc S).2.2.2 (.inl q) i = gc.2.2.2 (.inl q) i := fun q i e1 e2 => by
    refine (if_neg (fun z => e1 ⟨Sum.inl.inj z.1, z.2⟩)).trans ?_
    exact if_neg (fun z => e2 ⟨Sum.inl.inj z.1, z.2⟩)
  have ml : ∀ q i, ¬ (q = 105 ∧ i = 1) → ¬ (q = 114 ∧ i = S) → (k_M gr S).2.1 (.inl q) i = gr.2.1 (.inl q) i := fun q i e1 e2 => by
    refine (if_neg (fun z => e1 ⟨Sum.inl.inj z.1, z.2⟩)).trans ?_
    exact if_neg (fun z => e2 ⟨Sum.inl.inj z.1, z.2⟩)
  have big : ∀ i, i < 36 * S → gr.2.1 (.inl 113) i = hr'.2.1 (.inl 113) i := fun i hi => r9 i (fun q u v _ _ => by omega)
  have pk : ∀ q u v, q < n → rz_k hc' hr' S C q u v → rs_k (k_N gc S) (k_M gr S) S C N q u v := fun q u v hq Q => by
    obtain ⟨p1, p2, p3, p4, p5, p6, p7, p8, p9, p10, p11, p12, p13, p14⟩ := id Q
    obtain ⟨-, z⟩ := r8 q hq
    obtain ⟨z1, z2, z3⟩ := z u v Q
    unfold rs_k rD
    rw [ni S 5 q (Nat.le_refl _), ni S 6 q (Nat.le_refl _), ni S 7 q (Nat.le_refl _), ni S 8 q (Nat.le_refl _), x0 5 q (by omega), x0 6 q (by omega), x0 7 q (by omega), x0 8 q (by omega), ml 113 _ (by omega) (by omega), ml 113 _ (by omega) (by omega), ml 111 _ (by omega) (by omega), ml 111 _ (by omega) (by omega), ml 112 _ (by omega) (by omega), ml 112 _ (by omega) (by omega), ml 117 _ (by omega) (by omega),
      r6 111 _ (by decide +kernel) (by decide +kernel) (by decide +kernel) (by decide +kernel), r6 111 _ (by decide +kernel) (by decide +kernel) (by decide +kernel) (by decide +kernel), r6 112 _ (by decide +kernel) (by decide +kernel) (by decide +kernel) (by decide +kernel), r6 112 _ (by decide +kernel) (by decide +kernel) (by decide +kernel) (by decide +kernel)]
    exact ⟨p1, p2, p3, p6, p7, z1, z2, p10, p11, by rw [p12, p14], by rw [p13, p14], z3, by rw [p14, k_0]; exact hst q⟩
  have g113 : ∀ u v, u < 6 → v < 6 → (k_M gr S).2.1 (.inl 113) (36 * S + 6 * u + v) = 0 ∨ ∃ q, q < n ∧ (rs_k (k_N gc S) (k_M gr S) S C N q u v ∨ rs_k (k_N gc S) (k_M gr S) S C N q v u) := fun u v hu hv => by
    rcases kP2 u v hu hv with z | ⟨q, q1, q2⟩
    · refine Or.inl ?_
      rw [ml 113 _ (by omega) (by omega)]
      refine (r9 _ (fun q u' v' hq Q => ?_)).trans z
      have t := rz_kb Q
      refine ⟨fun e => ?_, fun e => ?_⟩
      · rw [e, t.1] at z
        exact n10 z
      · rw [e, t.2] at z
        exact n10 z
    · refine Or.inr ⟨q, q1, ?_⟩
      rcases q2 with q2 | q2
      · exact Or.inl (pk q _ _ q1 q2)
      · exact Or.inr (pk q _ _ q1 q2)
  refine ⟨by omega, nn, ?_, ?_, ?_, ?_, ?_, ?_, fun s hs => ⟨?_, ?_⟩, fun i hi => ?_⟩
  · show (gc.2.1 (.inl 0) 2 + 1).toInt = _
    rw [b3 0 2 (by decide +kernel) (by decide +kernel), xl, a.2.2.1 0 2 (by decide +kernel), i_add a3 k_1 (by omega) (by omega)]
    omega
  · show (gr.2.1 (.inl 105) 1 + 1).toInt = _
    rw [r5 1 (by decide +kernel), b.2.2.2 105 1 (by unfold rz_w; omega), i_add a4 k_1 (by omega) (by omega)]
    omega
  · unfold rD
    rw [nl 90 0 (by omega)]
    exact b4
  · unfold rD
    rw [ml 105 12 (by omega) (by omega)]
    exact r4
  · show gc.1 + 9 = _
    rw [b1, show hx.1 = hc.1 by rw [hX]; exact a.1, a7]
    omega
  · exact (rR _ _ _ _ _ _).trans (if_pos ⟨rfl, rfl⟩)
  · by_cases e : s = S
    · subst e
      refine (rR _ _ _ _ _ _).trans ?_
      rw [if_neg (fun z => absurd (Sum.inl.inj z.1) (by decide +kernel))]
      show (mx_uR gc (.inl 3) s (some (.inr (s, 0)))).2.2.2 (.inl 3) s = _
      exact (rR _ _ _ _ _ _).trans (if_pos ⟨rfl, rfl⟩)
    · rw [nr 3 s (by omega) (by omega), b5 3 s (by decide +kernel), xr]
      exact (a9 s (by omega)).1
  · by_cases e : s = S
    · subst e
      refine ⟨C, n, N, C1, C6, Nat.le_refl _, ?_, ?_, ?_, ?_, fun c q => ?_, ⟨?_, fun z => ?_⟩, fun q hq => ?_, g113, ?_, fun q hq => ?_⟩
      · unfold rD
        rw [ni s 0 0 (Nat.le_refl _), x0 0 0 (by omega)]
        exact k1
      · unfold rD
        rw [ml 106 s (by omega) (by omega), r6 106 s (by decide +kernel) (by decide +kernel) (by decide +kernel) (by decide +kernel)]
        exact k2
      · unfold rD
        rw [ni s 0 6 (Nat.le_refl _), x0 0 6 (by omega)]
        exact k3
      · unfold rD
        rw [ni s 0 5 (Nat.le_refl _)]
        exact x5
      · rw [ni s 1 c (Nat.le_refl _), ni s 2 c (Nat.le_refl _), ni s 3 c (Nat.le_refl _), ni s 4 c (Nat.le_refl _), x0 1 c (by omega), x0 2 c (by omega), x0 3 c (by omega), x0 4 c (by omega), ml 107 _ (by omega) (by omega), ml 108 _ (by omega) (by omega), ml 109 _ (by omega) (by omega), ml 110 _ (by omega) (by omega),
          r6 107 _ (by decide +kernel) (by decide +kernel) (by decide +kernel) (by decide +kernel), r6 108 _ (by decide +kernel) (by decide +kernel) (by decide +kernel) (by decide +kernel), r6 109 _ (by decide +kernel) (by decide +kernel) (by decide +kernel) (by decide +kernel), r6 110 _ (by decide +kernel) (by decide +kernel) (by decide +kernel) (by decide +kernel)]
        obtain ⟨c1, c2, c3, -, -⟩ := k6 c (by omega)
        exact ⟨k5 c q, c1, c2, c3⟩
      · rw [ni s 0 11 (Nat.le_refl _), x0 0 11 (by omega), o1]
        exact (show (mx_uI gr (.inl 114) s (-1)).2.1 (.inl 114) s = -1 from rI_s).symm
      · exact absurd (show (mx_uI gr (.inl 114) s (-1)).2.1 (.inl 114) s = -1 from rI_s) z
      · obtain ⟨u, v, Q⟩ := kP1 q hq
        exact ⟨u, v, pk q u v hq Q⟩
      · rw [kP3]
        unfold sd_C
        congr 1
        refine List.filter_congr (fun c hc1 => ?_)
        have lt : ∀ c ∈ sd_CL, c < 36 ∧ c / 6 < 6 ∧ c % 6 < 6 := by decide +kernel
        obtain ⟨l1, l2, l3⟩ := lt c hc1
        unfold rz_g
        have ec : 36 * s + c = 36 * s + 6 * (c / 6) + c % 6 := by omega
        rw [decide_eq_decide, ec]
        rcases kP2 (c / 6) (c % 6) l2 l3 with z | ⟨q, q1, q2⟩
        · rcases g113 (c / 6) (c % 6) l2 l3 with z2 | ⟨q, q1, q2⟩
          · rw [z, z2]
          · exfalso
            obtain ⟨u, v, Q⟩ := kP1 q q1
            have t := rz_kb Q
            have Q2 := pk q u v q1 Q
            have m1 := Q2.2.2.2.1
            have m2 := Q2.2.2.2.2.1
            rcases q2 with q2 | q2
            · have w1 := q2.2.2.2.1
              have w2 := q2.2.2.2.2.1
              have : (c / 6 = u ∧ c % 6 = v) ∨ (c / 6 = v ∧ c % 6 = u) := by omega
              rcases this with ⟨e1, e2⟩ | ⟨e1, e2⟩
              · rw [e1, e2, t.1] at z
                exact n10 z
              · rw [e1, e2, t.2] at z
                exact n10 z
            · have w1 := q2.2.2.2.1
              have w2 := q2.2.2.2.2.1
              have : (c / 6 = u ∧ c % 6 = v) ∨ (c / 6 = v ∧ c % 6 = u) := by omega
              rcases this with ⟨e1, e2⟩ | ⟨e1, e2⟩
              · rw [e1, e2, t.1] at z
                exact n10 z
              · rw [e1, e2, t.2] at z
                exact n10 z
        · have t : hr'.2.1 (.inl 113) (36 * s + 6 * (c / 6) + c % 6) = 1 := by
            rcases q2 with q2 | q2
            · exact (rz_kb q2).1
            · exact (rz_kb q2).2
          have t2 : ¬ (k_M gr s).2.1 (.inl 113) (36 * s + 6 * (c / 6) + c % 6) = 0 := by
            rcases q2 with q2 | q2
            · exact i_ne (pk q _ _ q1 q2).2.2.2.2.2.1 k_0 (by omega)
            · exact i_ne (pk q _ _ q1 q2).2.2.2.2.2.2.1 k_0 (by omega)
          rw [t]
          exact ⟨fun _ => t2, fun _ => n10⟩
      · rw [nr 92 _ (by omega) (by omega)]
        exact (b7 (N + q) (by omega) (by omega)).2
    · have hs' : s < S := by omega
      obtain ⟨C', n', F', D⟩ := (a9 s hs').2
      refine ⟨C', n', F', D.x (by omega) (fun o i ho => ?_) (fun q i w => ?_) (fun i hi => ⟨?_, ?_⟩)⟩
      · rw [ni s o i (by omega), xs s o i e ho.1]
      · have w' := w
        unfold rs_w at w'
        rw [ml q i (by omega) (by omega)]
        by_cases c : q = 113
        · subst c
          rw [big i (by omega)]
          exact rs_erF b hs' 113 i w
        · rw [r6 q i (by omega) c (by omega) (by omega)]
          exact rs_erF b hs' q i w
      · rw [ml 117 i (by omega) (by omega), (r7 i hi).2]
        exact b.2.2.2 117 i (by unfold rz_w; omega)
      · rw [nr 92 i (by omega) (by omega), (b6 i hi).2, xr]
  · rw [nl 91 i (by omega), ml 116 i (by omega) (by omega), ml 117 i (by omega) (by omega), nr 92 i (by omega) (by omega)]
    by_cases c : i < N
    · rw [(b6 i c).1, (b6 i c).2, (r7 i c).1, (r7 i c).2, xl, xr, a.2.2.1 91 i (by omega), b.2.2.2 116 i (by unfold rz_w; omega), b.2.2.2 117 i (by unfold rz_w; omega)]
      obtain ⟨q1, q2⟩ := a10 i c
      refine ⟨q1, ?_⟩
      rcases q2 with q | ⟨s, k, q1, q2, q3⟩
      · exact Or.inl q
      · refine Or.inr ⟨s, k, by omega, ?_, ?_⟩
        · unfold rD
          rw [ni s 0 6 (by omega), xs s 0 6 (by omega) (by decide +kernel)]
          exact q2
        · unfold rD
          rw [ni s 0 5 (by omega), xs s 0 5 (by omega) (by decide +kernel)]
          exact q3
    · refine ⟨?_, Or.inr ⟨S, i - N, by omega, ?_, ?_⟩⟩
      · rw [(b7 i (by omega) hi).1]
        have := (r8 (i - N) (by omega)).1
        rw [show N + (i - N) = i by omega] at this
        exact this.symm
      · unfold rD
        rw [ni S 0 6 (Nat.le_refl _), x0 0 6 (by omega)]
        have : rD hc' (.inr (S, 0)) 6 = n := k3
        unfold rD at this
        omega
      · unfold rD
        rw [ni S 0 5 (Nat.le_refl _)]
        have : rD hx (.inr (S, 0)) 5 = N := x5
        unfold rD at this
        omega
end RH
/-! ===== shape(), whatever the tape holds ===== -/
section RJ
variable {h hc hr hc' hr' : mx_H} {S N n C k : Nat}
theorem rz_FW.l {v : Int32} (a : rz_FW S hc hc') : rz_FW S (mx_uI hc (.inl 1) 1 v) (mx_uI hc' (.inl 1) 1 v) := ⟨a.1, a.2.1, fun k i q => by
  by_cases e : k = 1 ∧ i = 1
  · rw [e.1, e.2, rI_s, rI_s]
  · rw [show (mx_uI hc' (.inl 1) 1 v).2.1 (.inl k) i = hc'.2.1 (.inl k) i from if_neg (fun z => e ⟨Sum.inl.inj z.1, z.2⟩), show (mx_uI hc (.inl 1) 1 v).2.1 (.inl k) i = hc.2.1 (.inl k) i from if_neg (fun z => e ⟨Sum.inl.inj z.1, z.2⟩)]
    exact a.2.2.1 k i q, a.2.2.2⟩
theorem rz_FR.l {v : Int32} (a : rz_FR S hr hr') : rz_FR S (mx_uI hr (.inl 105) 16 v) (mx_uI hr' (.inl 105) 16 v) := ⟨a.1, a.2.1, a.2.2.1, fun k i q => by
  by_cases e : k = 105 ∧ i = 16
  · rw [e.1, e.2, rI_s, rI_s]
  · rw [show (mx_uI hr' (.inl 105) 16 v).2.1 (.inl k) i = hr'.2.1 (.inl k) i from if_neg (fun z => e ⟨Sum.inl.inj z.1, z.2⟩), show (mx_uI hr (.inl 105) 16 v).2.1 (.inl k) i = hr.2.1 (.inl k) i from if_neg (fun z => e ⟨Sum.inl.inj z.1, z.2⟩)]
    exact a.2.2.2 k i q⟩
/-- an emptied tape changes nothing else -/
theorem rs_A.e {v w : Int32} (A : rs_A hc hr S N) : rs_A (mx_uI hc (.inl 1) 1 v) (mx_uI hr (.inl 105) 16 w) S N := A
theorem rs_A.ec {v : Int32} (A : rs_A hc hr S N) : rs_A (mx_uI hc (.inl 1) 1 v) hr S N := A
theorem rs_T0 : rs_T (mx_uI hc (.inl 1) 1 0) (mx_uI hr (.inl 105) 16 0) := ⟨0, by decide +kernel, rfl, rfl, fun i hi => absurd hi (Nat.not_lt_zero _)⟩
theorem rs_T.f (T : rs_T hc hr) (a : rz_FW S hc hc') (b : rz_FR S hr hr') : rs_T hc' hr' := by
  obtain ⟨L, l, t1, t2, tb⟩ := T
  refine ⟨L, l, ?_, ?_, fun i hi => ?_⟩
  · unfold rD
    rw [a.2.2.1 1 1 (by omega)]
    exact t1
  · unfold rD
    rw [b.2.2.2 105 16 (by unfold rz_w; omega)]
    exact t2
  · unfold rD
    rw [a.2.2.1 2 i (by omega), b.2.2.2 118 i (by unfold rz_w; omega)]
    exact tb i hi
theorem R194 (h : mx_H) : f194 h = if h.2.1 (.inl 105) 1 ≠ 12 then (if (f192 h).2.1 (.inl 105) 18 < 0 then (if (f192 h).2.1 (.inl 105) 12 + (f192 h).2.1 (.inl 105) 19 ≤ 200 then g194_61 0 (mx_uI (f192 h) (.inl 105) 16 0) else (-3, f192 h)) else (-100 - (f192 h).2.1 (.inl 105) 18, mx_uI (f192 h) (.inl 105) 16 0)) else (-3, h) := f194_eq h
theorem k_N_ec {hx gc : mx_H} {M s : Nat} (B : k_B hx gc N M S) (W : rz_FW S hc hx) (hs : s < S) : rs_ec s hc (k_N gc S) := fun o i ho => by
  show (sn_f (k_G gc S) (S + 1)).2.1 (.inr (s, o)) i = _
  rw [sn_io i (by omega)]
  exact (B.2.1 (s, o) i).trans (W.2.2.2 s o i (by omega))
theorem rz_FW_r (W : rz_FW S hc hc') (i : Nat) : hc'.2.2.2 (.inl 85) i = hc.2.2.2 (.inl 85) i := by rw [show hc'.2.2.2 = hc.2.2.2 from congrArg Prod.snd W.2.1]
theorem k_N_r {hx gc : mx_H} {M i : Nat} (B : k_B hx gc N M S) (W : rz_FW S hc hx) : (k_N gc S).2.2.2 (.inl 85) i = hc.2.2.2 (.inl 85) i := by
  refine Eq.trans (show (k_N gc S).2.2.2 (.inl 85) i = gc.2.2.2 (.inl 85) i from rfl) ?_
  exact (B.2.2.2.2.1 85 i (by decide +kernel)).trans (rz_FW_r W i)
theorem rs_shape (A : rs_A hc hr S N) (T : S ≤ 11 → rs_T hc hr) (hL : 0 ≤ rD hc (.inl 1) 1 ∧ rD hc (.inl 1) 1 ≤ 120) (hb : ∀ i, 0 ≤ rD hc (.inl 2) i ∧ rD hc (.inl 2) i ≤ 255) (h7 : ∀ k, 0 ≤ rD (f103 hc).2 (.inr (S, 7)) k) :
    ∃ S' N', (S ≤ S' ∧ N ≤ N') ∧ rs_A (f103 hc).2 (f194 hr).2 S' N' ∧ (S' ≤ 11 → rs_T (f103 hc).2 (f194 hr).2) ∧ (∀ s, s < S → rs_ec s hc (f103 hc).2) ∧ ∀ i, (f103 hc).2.2.2.2 (.inl 85) i = hc.2.2.2 (.inl 85) i := by
  obtain ⟨a1, a2, a3, a4, a5, a6, a7, a8, a9, a10⟩ := id A
  have F : rz_FW S hc (f86 S hc).2 := C86F (L := (rD hc (.inl 1) 1).toNat) a1 (by omega) (by omega) hb
  rw [C103 a8 F, R194]
  have e2 : rD (f86 S hc).2 (.inl 0) 2 = S := by
    unfold rD
    rw [F.2.2.1 0 2 (by decide +kernel)]
    exact a3
  have e90 : rD (f86 S hc).2 (.inl 90) 0 = N := by
    unfold rD
    rw [F.2.2.1 90 0 (by decide +kernel)]
    exact a5
  by_cases c12 : S = 12
  · rw [if_neg (show ¬ hr.2.1 (.inl 105) 1 ≠ 12 from fun q => q (i_eq a4 k_12 (by omega)))]
    have f1 : f168 ((f86 S hc).2.2.1 (.inr (S, 0)) 6) (f86 S hc).2 = 1 := by rw [f168_eq, if_pos (i_le k_12 e2 (by omega))]
    rw [f1, if_neg n10]
    have B : rs_A (f86 S hc).2 hr S N := A.f F rz_FR.refl
    by_cases c : (f86 S hc).1 < 0
    · rw [if_pos c]
      exact ⟨S, N, ⟨Nat.le_refl _, Nat.le_refl _⟩, B, fun q => by omega, fun s hs => rs_ecF F hs, fun i => (show (f86 S hc).2.2.2.2 (.inl 85) i = _ from rz_FW_r F i)⟩
    · rw [if_neg c]
      exact ⟨S, N, ⟨Nat.le_refl _, Nat.le_refl _⟩, B.ec, fun q => by omega, fun s hs => rs_ecF F hs, fun i => (show (f86 S hc).2.2.2.2 (.inl 85) i = _ from rz_FW_r F i)⟩
  · rw [if_pos (show hr.2.1 (.inl 105) 1 ≠ 12 from i_ne a4 k_12 (by omega))]
    obtain ⟨L, l, t1, t2, tb⟩ := id (T (by omega))
    obtain ⟨C, C1, E1, ⟨o1, o2⟩, E2, E3⟩ := rz_text l t1 t2 tb a4 a1
    rcases E3 with ⟨e1, ef, n, K⟩ | ⟨e1, ef⟩
    · have n15 : n ≤ 15 := by
        rw [K.2.2.2.2.2.2.2.2.2.1]
        exact sd_C_15 _
      have k3 := K.2.2.2.1
      have k4 := K.2.2.2.2.1
      have e12 : rD (f192 hr) (.inl 105) 12 = N := by
        unfold rD
        rw [E2.2.2.2 105 12 (by unfold rz_w; omega)]
        exact a6
      have sum := i_add e12 k4 (by omega) (by omega)
      rw [e1, if_pos (show (-1 : Int32) < 0 by decide +kernel), if_pos (i_lt ef k_0 (by omega))]
      rcases C168 e2 e90 k3 a1 a2 (by omega) with ⟨q1, q2, q3⟩ | ⟨q1, q3⟩
      · rw [q3, if_pos rfl, if_pos (i_le sum k_200 (by omega))]
        have dr : (mx_uI (f86 S hc).2 (.inl 1) 1 0).2.2.2 (.inl 0) 3 = some (.inr (S, 0)) := by
          show (f86 S hc).2.2.2.2 (.inl 0) 3 = _
          rw [show (f86 S hc).2.2.2.2 = hc.2.2.2 from congrArg Prod.snd E1.2.1]
          exact a8
        rw [C169 dr]
        generalize hX : mx_uI (mx_uI (f86 S hc).2 (.inl 1) 1 0) (.inr (S, 0)) 5 ((mx_uI (f86 S hc).2 (.inl 1) 1 0).2.1 (.inl 90) 0) = hx
        have x6 : rD hx (.inr (S, 0)) 6 = n := by
          unfold rD
          rw [← hX, rI_i (by decide +kernel)]
          exact k3
        have x3 : hx.2.2.2 (.inl 0) 3 = some (.inr (S, 0)) := by
          rw [← hX]
          exact dr
        have x2 : rD hx (.inl 0) 2 = S := by
          rw [← hX]
          exact e2
        have x1 : hx.1 = 167 + 9 * S := by
          rw [← hX]
          exact E1.1.trans a7
        have x90 : rD hx (.inl 90) 0 = N := by
          rw [← hX]
          exact e90
        obtain ⟨gc, B, ec⟩ := C169g (N := N) q1 n 0 0 (h := hx) (g := hx) (by omega) rfl n15 q2 x6 x3 x2 x1 ⟨rfl, fun _ _ => rfl, fun _ _ _ _ => rfl, x90, fun _ _ _ => rfl, fun _ _ => ⟨rfl, rfl⟩, fun i h1 h2 => by omega⟩
        have K' : rz_C (mx_uI (f86 S hc).2 (.inl 1) 1 0) (mx_uI (f192 hr) (.inl 105) 16 0) S C n := K
        have s1 : rD (mx_uI (f192 hr) (.inl 105) 16 0) (.inl 105) 1 = S := by
          show rD (f192 hr) (.inl 105) 1 = S
          unfold rD
          rw [E2.2.2.2 105 1 (by unfold rz_w; omega)]
          exact a4
        obtain ⟨gr, R, er⟩ := R194g (N := N) K' a1 q2 s1 n 0 0 (by omega) rfl (k_R.z K' e12)
        have E103 : (f103 hc).2 = k_N gc S := by rw [C103 a8 F, e1, if_pos (show (-1 : Int32) < 0 by decide +kernel), q3, if_pos rfl, C169 dr, hX, ec]
        have hst : ∀ q, 0 ≤ rD (mx_uI (f86 S hc).2 (.inl 1) 1 0) (.inr (S, 7)) q := fun q => by
          have z := h7 q
          rw [E103] at z
          have z2 : (k_N gc S).2.1 (.inr (S, 7)) q = hx.2.1 (.inr (S, 7)) q := by
            show (sn_f (k_G gc S) (S + 1)).2.1 (.inr (S, 7)) q = _
            rw [sn_io q (by omega)]
            exact B.2.1 (S, 7) q
          unfold rD at z ⊢
          rw [z2, ← hX, rS (by decide +kernel)] at z
          exact z
        rw [ec, er]
        refine ⟨S + 1, N + n, ⟨by omega, by omega⟩, rs_more (hc := mx_uI hc (.inl 1) 1 0) (hr := mx_uI hr (.inl 105) 16 0) A.e q1 q2 C1 K' E1.l E2.l o1 hst hX.symm B R, fun _ => ⟨0, by decide +kernel, ?_, ?_, fun i hi => absurd hi (Nat.not_lt_zero _)⟩, fun s hs => ?_, fun i => ?_⟩
        · show (gc.2.1 (.inl 1) 1).toInt = _
          rw [B.2.2.1 1 1 (by decide +kernel) (by decide +kernel), ← hX]
          rfl
        · show (gr.2.1 (.inl 105) 16).toInt = _
          rw [R.2.2.2.2.1 16 (by decide +kernel)]
          rfl
        · have W : rz_FW S (mx_uI hc (.inl 1) 1 0) hx := by
            rw [← hX]
            exact E1.l.s (by decide +kernel)
          exact (show rs_ec s (mx_uI hc (.inl 1) 1 0) (k_N gc S) from k_N_ec B W hs)
        · have W : rz_FW S (mx_uI hc (.inl 1) 1 0) hx := by
            rw [← hX]
            exact E1.l.s (by decide +kernel)
          exact (show (k_N gc S).2.2.2 (.inl 85) i = (mx_uI hc (.inl 1) 1 0).2.2.2 (.inl 85) i from k_N_r B W)
      · rw [q3, if_neg n10, if_neg (i_nle sum k_200 (by omega))]
        exact ⟨S, N, ⟨Nat.le_refl _, Nat.le_refl _⟩, A.f E1 E2, fun q => (T q).f E1 E2, fun s hs => rs_ecF E1 hs, fun i => (show (f86 S hc).2.2.2.2 (.inl 85) i = _ from rz_FW_r E1 i)⟩
    · rw [if_neg (i_nlt rfl k_0 e1), if_neg (i_nlt rfl k_0 ef)]
      exact ⟨S, N, ⟨Nat.le_refl _, Nat.le_refl _⟩, (A.f E1 E2).e, fun _ => rs_T0, fun s hs => rs_ecF E1 hs, fun i => (show (f86 S hc).2.2.2.2 (.inl 85) i = _ from rz_FW_r E1 i)⟩
end RJ
/-! ===== body(): alike on both sides ===== -/
section RO
variable {h hc hr : mx_H} {S N : Nat} {a : Int32}
theorem w_ws {x p q : Int32} : f157 x p q = f173 x p q := by rw [w157, w173]
def k_n (h : mx_H) (N : Nat) (a : Int32) : mx_H := mx_uI (mx_uR (mx_uI h (.inl 91) N a) (.inl 92) N none) (.inl 90) 0 (h.2.1 (.inl 90) 0 + 1)
theorem C37n (hN : rD h (.inl 90) 0 = N) (n2 : N < 200) : f37_null a h = (h.2.1 (.inl 90) 0 + 1 - 1, k_n h N a) := by
  rw [f37_null_eq, if_pos (i_lt hN k_200 (by omega))]
  show (h.2.1 (.inl 90) 0 + 1 - 1, mx_uI (mx_uR (mx_uI h (.inl 91) (Int32.toNatClampNeg (h.2.1 (.inl 90) 0)) a) (.inl 92) (Int32.toNatClampNeg (h.2.1 (.inl 90) 0)) none) (.inl 90) 0 (h.2.1 (.inl 90) 0 + 1)) = _
  rw [i_cl hN]
  rfl
def k_m (h : mx_H) (N : Nat) (a : Int32) : mx_H := mx_uI (mx_uI (mx_uI h (.inl 116) N a) (.inl 117) N 0) (.inl 105) 12 (h.2.1 (.inl 105) 12 + 1)
theorem R285 (hN : rD h (.inl 105) 12 = N) : f285 a h = if f173 a 0 5 ≠ 0 then (if h.2.1 (.inl 105) 12 ≠ 200 then (h.2.1 (.inl 105) 12 + 1 - 1, k_m h N a) else (-3, h)) else (-1, h) := by
  rw [f285_eq]
  show (if f173 a 0 5 ≠ 0 then (if h.2.1 (.inl 105) 12 ≠ 200 then (h.2.1 (.inl 105) 12 + 1 - 1, mx_uI (mx_uI (mx_uI h (.inl 116) (Int32.toNatClampNeg (h.2.1 (.inl 105) 12)) a) (.inl 117) (Int32.toNatClampNeg (h.2.1 (.inl 105) 12)) 0) (.inl 105) 12 (h.2.1 (.inl 105) 12 + 1)) else (-3, h)) else (-1, h)) = _
  rw [i_cl hN]
  rfl
theorem rs_body (A : rs_A hc hr S N) : (f147 a hc).1 = (f285 a hr).1 ∧ ∃ N', N ≤ N' ∧ rs_A (f147 a hc).2 (f285 a hr).2 S N' := by
  obtain ⟨a1, a2, a3, a4, a5, a6, a7, a8, a9, a10⟩ := id A
  rw [f147_eq, R285 a6, f162_eq, w_ws]
  by_cases c : f173 a 0 5 ≠ 0
  · rw [if_pos c, if_pos c]
    by_cases c2 : N < 200
    · rw [if_pos (i_lt a5 k_200 (by omega)), if_pos (i_ne a6 k_200 (by omega)), C37n a5 c2]
      refine ⟨?_, N + 1, by omega, a1, by omega, a3, a4, ?_, ?_, a7, a8, fun s hs => ⟨(a9 s hs).1, ?_⟩, fun i hi => ?_⟩
      · show hc.2.1 (.inl 90) 0 + 1 - 1 = hr.2.1 (.inl 105) 12 + 1 - 1
        rw [i_eq a5 a6 rfl]
      · show (hc.2.1 (.inl 90) 0 + 1).toInt = _
        rw [i_add a5 k_1 (by omega) (by omega)]
        omega
      · show (hr.2.1 (.inl 105) 12 + 1).toInt = _
        rw [i_add a6 k_1 (by omega) (by omega)]
        omega
      · obtain ⟨C, n, F, D⟩ := (a9 s hs).2
        refine ⟨C, n, F, rs_D.x (N := N) (hc := hc) (hc' := k_n hc N a) (hr := hr) (hr' := k_m hr N a) (by omega) (fun o i ho => rfl) (fun k i w => ?_) (fun i hi => ⟨?_, ?_⟩) D⟩
        · unfold rs_w at w
          show (mx_uI (mx_uI (mx_uI hr (.inl 116) N a) (.inl 117) N 0) (.inl 105) 12 (hr.2.1 (.inl 105) 12 + 1)).2.1 (.inl k) i = _
          rw [rN (by omega), rN (by omega), rN (by omega)]
        · show (mx_uI (mx_uI hr (.inl 116) N a) (.inl 117) N 0).2.1 (.inl 117) i = _
          rw [rI_i (by omega)]
          rfl
        · show (if (Sum.inl 92 : mx_A) = .inl 92 ∧ i = N then none else hc.2.2.2 (.inl 92) i) = _
          exact if_neg (fun q => by omega)
      · have e1 : (k_n hc N a).2.1 (.inl 91) i = if i = N then a else hc.2.1 (.inl 91) i := by
          show (mx_uI hc (.inl 91) N a).2.1 (.inl 91) i = _
          by_cases e : i = N
          · rw [if_pos e, rI_c rfl e]
          · rw [if_neg e, rI_i e]
        have e2 : (k_n hc N a).2.2.2 (.inl 92) i = if i = N then none else hc.2.2.2 (.inl 92) i := by
          show (if (Sum.inl 92 : mx_A) = .inl 92 ∧ i = N then none else hc.2.2.2 (.inl 92) i) = _
          by_cases e : i = N
          · rw [if_pos e, if_pos ⟨rfl, e⟩]
          · rw [if_neg e, if_neg (fun q => e q.2)]
        have e3 : (k_m hr N a).2.1 (.inl 116) i = if i = N then a else hr.2.1 (.inl 116) i := by
          show (mx_uI hr (.inl 116) N a).2.1 (.inl 116) i = _
          by_cases e : i = N
          · rw [if_pos e, rI_c rfl e]
          · rw [if_neg e, rI_i e]
        have e4 : (k_m hr N a).2.1 (.inl 117) i = if i = N then 0 else hr.2.1 (.inl 117) i := by
          show (mx_uI (mx_uI hr (.inl 116) N a) (.inl 117) N 0).2.1 (.inl 117) i = _
          by_cases e : i = N
          · rw [if_pos e, rI_c rfl e]
          · rw [if_neg e, rI_i e]
            rfl
        show (k_n hc N a).2.1 (.inl 91) i = (k_m hr N a).2.1 (.inl 116) i ∧ (((k_m hr N a).2.1 (.inl 117) i = 0 ∧ (k_n hc N a).2.2.2 (.inl 92) i = none) ∨ ∃ s k : Nat, s < S ∧ (k : Int) < rD hc (.inr (s, 0)) 6 ∧ rD hc (.inr (s, 0)) 5 + k = i)
        rw [e1, e2, e3, e4]
        by_cases e : i = N
        · rw [if_pos e, if_pos e, if_pos e, if_pos e]
          exact ⟨rfl, Or.inl ⟨rfl, rfl⟩⟩
        · rw [if_neg e, if_neg e, if_neg e, if_neg e]
          exact a10 i (by omega)
    · rw [if_neg (i_nlt a5 k_200 (by omega)), if_neg (fun q => q (i_eq a6 k_200 (by omega)))]
      exact ⟨rfl, N, Nat.le_refl _, A⟩
  · rw [if_neg c, if_neg c]
    exact ⟨rfl, N, Nat.le_refl _, A⟩
end RO
/-! ===== feed(): the tape takes bytes alike ===== -/
section RP
variable {h h' h'' hc hr : mx_H} {S N L n : Nat} {a1 a2 : Int32}
theorem by8 {x c r y : Int32} {s : Nat} (hs : s ≤ 24) (e1 : c.toBitVec = (x.toBitVec >>> s) &&& 255#32) (e2 : y.toBitVec = x.toBitVec.sshiftRight s) (e3 : r = y.toInt8.toInt32.toInt8.toInt32) : rz_b c.toInt r.toInt := by
  have w : (x.toBitVec.sshiftRight s).setWidth 8 = (x.toBitVec >>> s).setWidth 8 := by
    apply BitVec.eq_of_getLsbD_eq
    intro i hi
    rw [BitVec.getLsbD_setWidth, BitVec.getLsbD_setWidth, BitVec.getLsbD_sshiftRight, BitVec.getLsbD_ushiftRight, if_pos (by omega)]
    have : decide (32 ≤ i) = false := by
      rw [decide_eq_false_iff_not]
      omega
    rw [this]
    simp
  have n : (x.toBitVec >>> s &&& 255#32).toNat = ((x.toBitVec >>> s).setWidth 8).toNat := by
    rw [BitVec.toNat_and, BitVec.toNat_setWidth]
    exact Nat.and_two_pow_sub_one_eq_mod _ 8
  generalize hW : (x.toBitVec >>> s).setWidth 8 = W at w n
  have b := W.isLt
  have c1 : c.toInt = W.toNat := by
    show c.toBitVec.toInt = _
    rw [e1, BitVec.toInt_eq_toNat_cond, n, if_pos (by omega)]
  have r1 : r.toInt = W.toInt := by
    rw [e3, Int8.toInt8_toInt32, Int8.toInt_toInt32]
    show (y.toBitVec.signExtend 8).toInt = _
    first
      | rw [BitVec.signExtend_eq_setWidth_of_le _ (by decide +kernel), e2, w]
      | rw [BitVec.signExtend_eq_setWidth_of_lt _ (by decide +kernel), e2, w]
  rw [c1, r1, BitVec.toInt_eq_toNat_cond]
  refine ⟨by omega, by omega, ?_⟩
  split <;> split <;> omega
theorem by8k {x a3 : Int32} {k : Nat} (hk : k < 4) (ha : a3.toInt = (k : Int)) : rz_b (((x.toUInt32 >>> (Int32.toUInt32 (8 * a3) &&& Int32.toUInt32 31)).toInt32) &&& 255).toInt (vp_nar .byte ((Int32.toInt8 (x >>> ((8 * a3) &&& 31))).toInt32)).toInt := by
  have z : k = 0 ∨ k = 1 ∨ k = 2 ∨ k = 3 := by omega
  have e : a3 = nI k := i_nI ha
  rcases z with z | z | z | z
  · rw [e, z]
    exact by8 (x := x) (s := 0) (by decide +kernel) rfl rfl rfl
  · rw [e, z]
    exact by8 (x := x) (s := 8) (by decide +kernel) rfl rfl rfl
  · rw [e, z]
    exact by8 (x := x) (s := 16) (by decide +kernel) rfl rfl rfl
  · rw [e, z]
    exact by8 (x := x) (s := 24) (by decide +kernel) rfl rfl rfl
/-- only the tape -/
def rf_c (h h' : mx_H) : Prop := h'.1 = h.1 ∧ h'.2.2 = h.2.2 ∧ (∀ q i, h'.2.1 (.inr q) i = h.2.1 (.inr q) i) ∧ ∀ k i, ¬ (k = 1 ∧ i = 1) → k ≠ 2 → h'.2.1 (.inl k) i = h.2.1 (.inl k) i
def rf_r (h h' : mx_H) : Prop := h'.1 = h.1 ∧ h'.2.2 = h.2.2 ∧ (∀ q i, h'.2.1 (.inr q) i = h.2.1 (.inr q) i) ∧ ∀ k i, ¬ (k = 105 ∧ i = 16) → k ≠ 118 → h'.2.1 (.inl k) i = h.2.1 (.inl k) i
theorem rf_c.refl : rf_c h h := ⟨rfl, rfl, fun _ _ => rfl, fun _ _ _ _ => rfl⟩
theorem rf_r.refl : rf_r h h := ⟨rfl, rfl, fun _ _ => rfl, fun _ _ _ _ => rfl⟩
theorem rf_c.trans (a : rf_c h h') (b : rf_c h' h'') : rf_c h h'' := ⟨b.1.trans a.1, b.2.1.trans a.2.1, fun q i => (b.2.2.1 q i).trans (a.2.2.1 q i), fun k i p q => (b.2.2.2 k i p q).trans (a.2.2.2 k i p q)⟩
theorem rf_r.trans (a : rf_r h h') (b : rf_r h' h'') : rf_r h h'' := ⟨b.1.trans a.1, b.2.1.trans a.2.1, fun q i => (b.2.2.1 q i).trans (a.2.2.1 q i), fun k i p q => (b.2.2.2 k i p q).trans (a.2.2.2 k i p q)⟩
theorem rf_c.a {i : Nat} {v w : Int32} : rf_c h (mx_uI (mx_uI h (.inl 2) i v) (.inl 1) 1 w) := ⟨rfl, rfl, fun _ _ => rfl, fun k j p q => by
  rw [show (mx_uI (mx_uI h (.inl 2) i v) (.inl 1) 1 w).2.1 (.inl k) j = (mx_uI h (.inl 2) i v).2.1 (.inl k) j from if_neg (fun z => p ⟨Sum.inl.inj z.1, z.2⟩), rN q]⟩
theorem rf_r.a {i : Nat} {v w : Int32} : rf_r h (mx_uI (mx_uI h (.inl 118) i v) (.inl 105) 16 w) := ⟨rfl, rfl, fun _ _ => rfl, fun k j p q => by
  rw [show (mx_uI (mx_uI h (.inl 118) i v) (.inl 105) 16 w).2.1 (.inl k) j = (mx_uI h (.inl 118) i v).2.1 (.inl k) j from if_neg (fun z => p ⟨Sum.inl.inj z.1, z.2⟩), rN q]⟩
theorem rf_c.u (a : rf_c h h') : rs_u S h h' := by
  have e : h'.2.2.2 = h.2.2.2 := congrArg Prod.snd a.2.1
  exact ⟨a.1, by rw [e], fun i => by rw [e], fun i => by rw [e], a.2.2.2 0 2 (by omega) (by omega), a.2.2.2 90 0 (by omega) (by omega), fun i => a.2.2.2 91 i (by omega) (by omega), fun s hs o i _ => a.2.2.1 (s, o) i⟩
theorem rf_r.v (b : rf_r h h') : rs_v S h h' := ⟨b.2.2.2 105 1 (by omega) (by omega), b.2.2.2 105 12 (by omega) (by omega), fun i => b.2.2.2 116 i (by omega) (by omega), fun i => b.2.2.2 117 i (by omega) (by omega), fun s hs k i w => by
  unfold rs_w at w
  exact b.2.2.2 k i (by omega) (by omega)⟩
theorem rf_85 (h1 : a1.toInt = (n : Int)) : ∀ (j k : Nat) (a3 : Int32) {h : mx_H}, k + j = n → a3.toInt = (k : Int) → rf_c h (g85_2 a1 a2 a3 h)
  | 0, k, a3, h, e, ha => by
    rw [g85_2_eq, if_pos (i_le h1 ha (by omega))]
    exact rf_c.refl
  | j + 1, k, a3, h, e, ha => by
    have b := i_b a1
    rw [g85_2_eq, if_neg (i_nle h1 ha (by omega))]
    by_cases c : 120 ≤ h.2.1 (.inl 1) 1
    · rw [if_pos c]
      exact rf_c.refl
    · rw [if_neg c]
      exact rf_c.a.trans (rf_85 h1 j (k + 1) (a3 + 1) (by omega) (by rw [i_add ha k_1 (by omega) (by omega)]; omega))
theorem rf_184 (h1 : a1.toInt = (n : Int)) : ∀ (j k : Nat) (a3 : Int32) {h : mx_H}, k + j = n → a3.toInt = (k : Int) → rf_r h (g184_27 a1 a2 a3 h).2
  | 0, k, a3, h, e, ha => by
    rw [g184_27_eq, if_pos (i_le h1 ha (by omega))]
    exact rf_r.refl
  | j + 1, k, a3, h, e, ha => by
    have b := i_b a1
    rw [g184_27_eq, if_neg (i_nle h1 ha (by omega))]
    exact rf_r.a.trans (rf_184 h1 j (k + 1) (a3 + 1) (by omega) (by rw [i_add ha k_1 (by omega) (by omega)]; omega))
theorem rs_fd (n4 : n ≤ 4) (h1 : a1.toInt = (n : Int)) : ∀ (j k : Nat) (a3 : Int32) {hc hr : mx_H} {L : Nat}, k + j = n → a3.toInt = (k : Int) → L + j ≤ 120 → rD hc (.inl 1) 1 = L → rD hr (.inl 105) 16 = L → (∀ i, i < L → rz_b (rD hc (.inl 2) i) (rD hr (.inl 118) i)) →
    (g184_27 a1 a2 a3 hr).1 = (g184_27 a1 a2 a3 hr).2.2.1 (.inl 105) 16 ∧ rD (g85_2 a1 a2 a3 hc) (.inl 1) 1 = ((L + j : Nat) : Int) ∧ rD (g184_27 a1 a2 a3 hr).2 (.inl 105) 16 = ((L + j : Nat) : Int) ∧ ∀ i, i < L + j → rz_b (rD (g85_2 a1 a2 a3 hc) (.inl 2) i) (rD (g184_27 a1 a2 a3 hr).2 (.inl 118) i)
  | 0, k, a3, hc, hr, L, e, ha, hl, c1, r1, b => by
    rw [g184_27_eq, if_pos (i_le h1 ha (by omega)), g85_2_eq, if_pos (i_le h1 ha (by omega))]
    exact ⟨rfl, c1, r1, b⟩
  | j + 1, k, a3, hc, hr, L, e, ha, hl, c1, r1, b => by
    rw [g184_27_eq, if_neg (i_nle h1 ha (by omega)), g85_2_eq, if_neg (i_nle h1 ha (by omega)), if_neg (i_nle k_120 c1 (by omega)), i_cl c1, i_cl r1]
    have key : ∀ vc vr : Int32, rz_b vc.toInt vr.toInt → (g184_27 a1 a2 (a3 + 1) (mx_uI (mx_uI hr (.inl 118) L vr) (.inl 105) 16 (hr.2.1 (.inl 105) 16 + 1))).1 = (g184_27 a1 a2 (a3 + 1) (mx_uI (mx_uI hr (.inl 118) L vr) (.inl 105) 16 (hr.2.1 (.inl 105) 16 + 1))).2.2.1 (.inl 105) 16 ∧ rD (g85_2 a1 a2 (a3 + 1) (mx_uI (mx_uI hc (.inl 2) L vc) (.inl 1) 1 (hc.2.1 (.inl 1) 1 + 1))) (.inl 1) 1 = ((L + (j + 1) : Nat) : Int) ∧ rD (g184_27 a1 a2 (a3 + 1) (mx_uI (mx_uI hr (.inl 118) L vr) (.inl 105) 16 (hr.2.1 (.inl 105) 16 + 1))).2 (.inl 105) 16 = ((L + (j + 1) : Nat) : Int) ∧
        ∀ i, i < L + (j + 1) → rz_b (rD (g85_2 a1 a2 (a3 + 1) (mx_uI (mx_uI hc (.inl 2) L vc) (.inl 1) 1 (hc.2.1 (.inl 1) 1 + 1))) (.inl 2) i) (rD (g184_27 a1 a2 (a3 + 1) (mx_uI (mx_uI hr (.inl 118) L vr) (.inl 105) 16 (hr.2.1 (.inl 105) 16 + 1))).2 (.inl 118) i) := fun vc vr B => by
      have f := rs_fd n4 h1 j (k + 1) (a3 + 1) (hc := mx_uI (mx_uI hc (.inl 2) L vc) (.inl 1) 1 (hc.2.1 (.inl 1) 1 + 1)) (hr := mx_uI (mx_uI hr (.inl 118) L vr) (.inl 105) 16 (hr.2.1 (.inl 105) 16 + 1)) (L := L + 1) (by omega) (by rw [i_add ha k_1 (by omega) (by omega)]; omega) (by omega)
        (by show (hc.2.1 (.inl 1) 1 + 1).toInt = _; rw [i_add c1 k_1 (by omega) (by omega)]; omega) (by show (hr.2.1 (.inl 105) 16 + 1).toInt = _; rw [i_add r1 k_1 (by omega) (by omega)]; omega) (fun i hi => by
          show rz_b ((mx_uI hc (.inl 2) L vc).2.1 (.inl 2) i).toInt ((mx_uI hr (.inl 118) L vr).2.1 (.inl 118) i).toInt
          by_cases e : i = L
          · rw [rI_c rfl e, rI_c rfl e]
            exact B
          · rw [rI_i e, rI_i e]
            exact b i (by omega))
      rw [show L + 1 + j = L + (j + 1) by omega] at f
      exact f
    exact key _ _ (by8k (x := a2) (show k < 4 by omega) ha)
/-- whatever the tapes hold, the shapes stay -/
theorem rs_feed (A : rs_A hc hr S N) (T : S ≤ 11 → rs_T hc hr) : rs_A (f102 a1 a2 hc).2 (f184 a1 a2 hr).2 S N ∧ (S ≤ 11 → rs_T (f102 a1 a2 hc).2 (f184 a1 a2 hr).2 ∧ (f102 a1 a2 hc).1 = (f184 a1 a2 hr).1) := by
  have C : ∀ c : ¬ f173 a1 1 4 = 0, ∃ n : Nat, n ≤ 4 ∧ a1.toInt = (n : Int) := fun c => by
    by_cases q : (1 : Int32).toInt ≤ a1.toInt ∧ a1.toInt ≤ (4 : Int32).toInt
    · rw [k_1, k_4] at q
      exact ⟨a1.toInt.toNat, by omega, by omega⟩
    · exact absurd (by rw [w173, if_neg q]) c
  constructor
  · refine A.g (rf_c.u ?_) (rf_r.v ?_)
    · rw [f102_eq, w_ws]
      by_cases c : f173 a1 1 4 ≠ 0
      · rw [if_pos c]
        obtain ⟨n, -, hn⟩ := C c
        by_cases c2 : hc.2.1 (.inl 1) 1 + a1 ≤ 120
        · rw [if_pos c2, f85_eq]
          exact rf_85 hn n 0 0 (by omega) rfl
        · rw [if_neg c2]
          exact rf_c.refl
      · rw [if_neg c]
        exact rf_c.refl
    · rw [f184_eq]
      by_cases c : f173 a1 1 4 ≠ 0
      · rw [if_pos c]
        obtain ⟨n, -, hn⟩ := C c
        by_cases c2 : hr.2.1 (.inl 105) 16 + a1 ≤ 120
        · rw [if_pos c2]
          exact rf_184 hn n 0 0 (by omega) rfl
        · rw [if_neg c2]
          exact rf_r.refl
      · rw [if_neg c]
        exact rf_r.refl
  · intro s11
    obtain ⟨L, l, t1, t2, tb⟩ := id (T s11)
    rw [f102_eq, f184_eq, w_ws]
    by_cases c : f173 a1 1 4 ≠ 0
    · rw [if_pos c, if_pos c]
      obtain ⟨n, n4, hn⟩ := C c
      have s1 := i_add t1 hn (by omega) (by omega)
      have s2 := i_add t2 hn (by omega) (by omega)
      by_cases c2 : L + n ≤ 120
      · rw [if_pos (i_le s1 k_120 (by omega)), if_pos (i_le s2 k_120 (by omega)), f85_eq]
        obtain ⟨f1, f4, f5, f6⟩ := rs_fd (a2 := a2) n4 hn n 0 0 (by omega) rfl c2 t1 t2 tb
        refine ⟨⟨L + n, c2, f4, f5, f6⟩, ?_⟩
        rw [f1]
        exact i_eq f4 f5 rfl
      · rw [if_neg (i_nle s1 k_120 (by omega)), if_neg (i_nle s2 k_120 (by omega))]
        exact ⟨T s11, rfl⟩
    · rw [if_neg c, if_neg c]
      exact ⟨T s11, rfl⟩
end RP
/-! ===== a draft that grows piece by piece, bodies born at once ===== -/
section RQ
variable {h hc hr gc gr : mx_H} {S N n C M k : Nat}
/-- M pieces are there, of bodies N, N + 1, .. -/
def rj_J (hc hr : mx_H) (S C N M : Nat) : Prop := C ≤ 6 ∧ rD hc (.inr (S, 0)) 6 = M ∧ rD hr (.inl 105) 12 = ((N + M : Nat) : Int) ∧ (∀ q, q < M → hr.2.1 (.inl 116) (N + q) = 1 ∧ ∃ u v, rs_k hc hr S C N q u v) ∧
  (∀ u v, u < 6 → v < 6 → hr.2.1 (.inl 113) (36 * S + 6 * u + v) = 0 ∨ ∃ q, q < M ∧ (rs_k hc hr S C N q u v ∨ rs_k hc hr S C N q v u)) ∧ M = sd_C sd_CL (rz_g hr S)
/-! numbers, apart from the heaps -/
theorem rjm_c {c c0 u v : Nat} (hu : u < 6) (hv : v < 6) (e0 : c0 = 6 * u + v ∨ c0 = 6 * v + u) (l1 : c / 6 < 6 ∧ c / 6 < c % 6) (l2 : c0 / 6 < 6 ∧ c0 / 6 < c0 % 6) (q : c = 6 * v + u ∨ c = 6 * u + v) : c = c0 := by
  rcases q with q | q
  · have d1 : c / 6 = v := by omega
    have d2 : c % 6 = u := by omega
    rcases e0 with e0 | e0
    · exfalso
      have d3 : c0 / 6 = u := by omega
      have d4 : c0 % 6 = v := by omega
      omega
    · omega
  · have d1 : c / 6 = u := by omega
    have d2 : c % 6 = v := by omega
    rcases e0 with e0 | e0
    · omega
    · exfalso
      have d3 : c0 / 6 = v := by omega
      have d4 : c0 % 6 = u := by omega
      omega
theorem rjm_m {u v : Nat} (hn : u ≠ v) : ¬ 36 * S + 6 * u + v = 36 * S + 6 * v + u := by omega
theorem rjm_e {u v u' v' : Nat} (hu : u < 6) (hv : v < 6) (hu' : u' < 6) (hv' : v' < 6) (e : 36 * S + 6 * u' + v' = 36 * S + 6 * u + v) : u' = u ∧ v' = v := by omega
theorem rjm_o {u v c0 : Nat} (e0 : c0 = 6 * u + v ∨ c0 = 6 * v + u) : c0 = 6 * v + u ∨ c0 = 6 * u + v := e0.symm
theorem rj_15 {u v : Nat} (J : rj_J hc hr S C N M) (hu : u < 6) (hv : v < 6) (hn : u ≠ v) (z1 : hr.2.1 (.inl 113) (36 * S + 6 * u + v) = 0) (z2 : hr.2.1 (.inl 113) (36 * S + 6 * v + u) = 0) : M < 15 := by
  obtain ⟨c0, h0, e0⟩ := sd_pair hu hv hn
  have f0 : ¬ rz_g hr S c0 = true := fun q => by
    have q' := of_decide_eq_true q
    rcases e0 with rfl | rfl
    · exact q' (by rw [← Nat.add_assoc]; exact z1)
    · exact q' (by rw [← Nat.add_assoc]; exact z2)
  have := sd_C_14 h0 f0
  have e := J.2.2.2.2.2
  omega
theorem rj_add {mn mx d e w bo : Int32} {u v : Nat} (J : rj_J hc hr S C N M) (hu : u < C) (hv : v < C) (hn : u ≠ v) (z1 : hr.2.1 (.inl 113) (36 * S + 6 * u + v) = 0) (z2 : hr.2.1 (.inl 113) (36 * S + 6 * v + u) = 0)
    (c5 : ∀ i, gc.2.1 (.inr (S, 5)) i = if i = M then mn else hc.2.1 (.inr (S, 5)) i) (c6 : ∀ i, gc.2.1 (.inr (S, 6)) i = if i = M then mx else hc.2.1 (.inr (S, 6)) i) (c7 : ∀ i, gc.2.1 (.inr (S, 7)) i = if i = M then d else hc.2.1 (.inr (S, 7)) i) (c8 : ∀ i, gc.2.1 (.inr (S, 8)) i = if i = M then e else hc.2.1 (.inr (S, 8)) i)
    (c0 : rD gc (.inr (S, 0)) 6 = ((M + 1 : Nat) : Int)) (hmn : mn.toInt = ((min u v : Nat) : Int)) (hmx : mx.toInt = ((max u v : Nat) : Int)) (hbo : bo.toInt = ((N + M + 1 : Nat) : Int)) (hw : w.toInt = ((36 * S + 6 * u + v + 1 : Nat) : Int))
    (g113 : ∀ i, gr.2.1 (.inl 113) i = if i = 36 * S + 6 * v + u then bo else if i = 36 * S + 6 * u + v then bo else hr.2.1 (.inl 113) i) (g111 : ∀ i, gr.2.1 (.inl 111) i = if i = 36 * S + 6 * v + u then d else if i = 36 * S + 6 * u + v then d else hr.2.1 (.inl 111) i) (g112 : ∀ i, gr.2.1 (.inl 112) i = if i = 36 * S + 6 * v + u then e else if i = 36 * S + 6 * u + v then e else hr.2.1 (.inl 112) i)
    (g116 : ∀ i, gr.2.1 (.inl 116) i = if i = N + M then 1 else hr.2.1 (.inl 116) i) (g117 : ∀ i, gr.2.1 (.inl 117) i = if i = N + M then w else hr.2.1 (.inl 117) i) (g12 : rD gr (.inl 105) 12 = ((N + M + 1 : Nat) : Int)) (hde : e.toInt ≤ d.toInt) : rj_J gc gr S C N (M + 1) ∧ ∀ u' v', u' < 6 → v' < 6 → ¬ gr.2.1 (.inl 113) (36 * S + 6 * u' + v') = 0 → (u' = u ∧ v' = v) ∨ (u' = v ∧ v' = u) ∨ ¬ hr.2.1 (.inl 113) (36 * S + 6 * u' + v') = 0 := by
  obtain ⟨C6, j1, j2, j3, j4, j5⟩ := J
  have u6 : u < 6 := Nat.lt_of_lt_of_le hu C6
  have v6 : v < 6 := Nat.lt_of_lt_of_le hv C6
  have nz : ∀ (i m : Nat), rD hr (.inl 113) i = ((m + 1 : Nat) : Int) → ¬ hr.2.1 (.inl 113) i = 0 := fun i m t z => by
    unfold rD at t
    rw [z, k_0] at t
    omega
  have bn : ¬ bo = 0 := i_ne hbo k_0 (by omega)
  have old : ∀ q u' v', q < M → rs_k hc hr S C N q u' v' → rs_k gc gr S C N q u' v' := fun q u' v' hq Q => by
    obtain ⟨o1, o2, o3, o4, o5, o6, o7, o8, o9, o10, o11, o12⟩ := Q
    have ne : ¬ q = M := Nat.ne_of_lt hq
    have ne2 : ¬ N + q = N + M := fun t => ne (Nat.add_left_cancel t)
    have m1 : ¬ 36 * S + 6 * u' + v' = 36 * S + 6 * v + u := fun t => nz _ _ o6 (by rw [t]; exact z2)
    have m2 : ¬ 36 * S + 6 * u' + v' = 36 * S + 6 * u + v := fun t => nz _ _ o6 (by rw [t]; exact z1)
    have m3 : ¬ 36 * S + 6 * v' + u' = 36 * S + 6 * v + u := fun t => nz _ _ o7 (by rw [t]; exact z2)
    have m4 : ¬ 36 * S + 6 * v' + u' = 36 * S + 6 * u + v := fun t => nz _ _ o7 (by rw [t]; exact z1)
    unfold rs_k
    exact ⟨o1, o2, o3, (congrArg Int32.toInt ((c5 q).trans (if_neg ne))).trans o4, (congrArg Int32.toInt ((c6 q).trans (if_neg ne))).trans o5, (congrArg Int32.toInt ((g113 _).trans ((if_neg m1).trans (if_neg m2)))).trans o6, (congrArg Int32.toInt ((g113 _).trans ((if_neg m3).trans (if_neg m4)))).trans o7,
      ((g111 _).trans ((if_neg m1).trans (if_neg m2))).trans (o8.trans ((c7 q).trans (if_neg ne)).symm), ((g111 _).trans ((if_neg m3).trans (if_neg m4))).trans (o9.trans ((c7 q).trans (if_neg ne)).symm),
      ((g112 _).trans ((if_neg m1).trans (if_neg m2))).trans (o10.trans ((c8 q).trans (if_neg ne)).symm), ((g112 _).trans ((if_neg m3).trans (if_neg m4))).trans (o11.trans ((c8 q).trans (if_neg ne)).symm),
      (congrArg Int32.toInt ((g117 _).trans (if_neg ne2))).trans o12.1, by
        unfold rD
        rw [(c8 q).trans (if_neg ne), (c7 q).trans (if_neg ne)]
        exact o12.2⟩
  have new : rs_k gc gr S C N M u v := by
    have m1 : ¬ 36 * S + 6 * u + v = 36 * S + 6 * v + u := rjm_m hn
    unfold rs_k
    exact ⟨hu, hv, hn, (congrArg Int32.toInt ((c5 M).trans (if_pos rfl))).trans hmn, (congrArg Int32.toInt ((c6 M).trans (if_pos rfl))).trans hmx, (congrArg Int32.toInt ((g113 _).trans ((if_neg m1).trans (if_pos rfl)))).trans hbo, (congrArg Int32.toInt ((g113 _).trans (if_pos rfl))).trans hbo,
      ((g111 _).trans ((if_neg m1).trans (if_pos rfl))).trans ((c7 M).trans (if_pos rfl)).symm, ((g111 _).trans (if_pos rfl)).trans ((c7 M).trans (if_pos rfl)).symm, ((g112 _).trans ((if_neg m1).trans (if_pos rfl))).trans ((c8 M).trans (if_pos rfl)).symm, ((g112 _).trans (if_pos rfl)).trans ((c8 M).trans (if_pos rfl)).symm,
      (congrArg Int32.toInt ((g117 _).trans (if_pos rfl))).trans hw, by
        unfold rD
        rw [(c8 M).trans (if_pos rfl), (c7 M).trans (if_pos rfl)]
        exact hde⟩
  refine ⟨⟨C6, c0, g12, fun q hq => ?_, fun u' v' hu' hv' => ?_, ?_⟩, fun u' v' hu' hv' t => ?_⟩
  · rw [g116]
    by_cases t : q = M
    · rw [if_pos (by omega), t]
      exact ⟨rfl, u, v, new⟩
    · rw [if_neg (by omega)]
      obtain ⟨b1, u', v', Q⟩ := j3 q (by omega)
      exact ⟨b1, u', v', old q u' v' (by omega) Q⟩
  · rw [g113]
    by_cases e1 : 36 * S + 6 * u' + v' = 36 * S + 6 * v + u
    · refine Or.inr ⟨M, Nat.lt_succ_self M, Or.inr ?_⟩
      have : u' = v ∧ v' = u := rjm_e v6 u6 hu' hv' e1
      rw [this.1, this.2]
      exact new
    · rw [if_neg e1]
      by_cases e2 : 36 * S + 6 * u' + v' = 36 * S + 6 * u + v
      · refine Or.inr ⟨M, Nat.lt_succ_self M, Or.inl ?_⟩
        have : u' = u ∧ v' = v := rjm_e u6 v6 hu' hv' e2
        rw [this.1, this.2]
        exact new
      · rw [if_neg e2]
        rcases j4 u' v' hu' hv' with z | ⟨q, q1, q2⟩
        · exact Or.inl z
        · refine Or.inr ⟨q, Nat.lt_succ_of_lt q1, ?_⟩
          rcases q2 with q2 | q2
          · exact Or.inl (old q _ _ q1 q2)
          · exact Or.inr (old q _ _ q1 q2)
  · rw [j5]
    obtain ⟨c0, h0, e0⟩ := sd_pair u6 v6 hn
    have lt : ∀ c ∈ sd_CL, c / 6 < 6 ∧ c / 6 < c % 6 := by decide +kernel
    have gg : ∀ c, rz_g gr S c = true ↔ (c = 6 * v + u ∨ c = 6 * u + v ∨ rz_g hr S c = true) := fun c => by
      unfold rz_g
      rw [decide_eq_true_iff, decide_eq_true_iff, g113]
      by_cases e1 : c = 6 * v + u
      · rw [if_pos (show 36 * S + c = 36 * S + 6 * v + u by rw [e1, Nat.add_assoc])]
        exact ⟨fun _ => Or.inl e1, fun _ => bn⟩
      · rw [if_neg (show ¬ 36 * S + c = 36 * S + 6 * v + u from fun t => e1 (Nat.add_left_cancel (t.trans (Nat.add_assoc _ _ _))))]
        by_cases e2 : c = 6 * u + v
        · rw [if_pos (show 36 * S + c = 36 * S + 6 * u + v by rw [e2, Nat.add_assoc])]
          exact ⟨fun _ => Or.inr (Or.inl e2), fun _ => bn⟩
        · rw [if_neg (show ¬ 36 * S + c = 36 * S + 6 * u + v from fun t => e2 (Nat.add_left_cancel (t.trans (Nat.add_assoc _ _ _))))]
          exact ⟨fun q => Or.inr (Or.inr q), fun q => q.elim (fun q => absurd q e1) (fun q => q.elim (fun q => absurd q e2) id)⟩
    have f0 : ¬ rz_g hr S c0 = true := fun q => by
      have q' := of_decide_eq_true q
      rcases e0 with rfl | rfl
      · exact q' (by rw [← Nat.add_assoc]; exact z1)
      · exact q' (by rw [← Nat.add_assoc]; exact z2)
    apply Nat.le_antisymm
    · exact sd_C_lt2 (fun c _ q => (gg c).mpr (Or.inr (Or.inr q))) h0 f0 ((gg c0).mpr (e0.elim (fun e => Or.inr (Or.inl e)) Or.inl))
    · refine sd_C_add1 (c := c0) sd_CLn (fun c hc1 e q => ?_)
      have l1 := lt c hc1
      have l2 := lt c0 h0
      rcases (gg c).mp q with q | q | q
      · exact absurd (rjm_c u6 v6 e0 l1 l2 (Or.inl q)) e
      · exact absurd (rjm_c u6 v6 e0 l1 l2 (Or.inr q)) e
      · exact q
  · rw [g113] at t
    by_cases e1 : 36 * S + 6 * u' + v' = 36 * S + 6 * v + u
    · exact Or.inr (Or.inl (rjm_e v6 u6 hu' hv' e1))
    · rw [if_neg e1] at t
      by_cases e2 : 36 * S + 6 * u' + v' = 36 * S + 6 * u + v
      · exact Or.inl (rjm_e u6 v6 hu' hv' e2)
      · rw [if_neg e2] at t
        exact Or.inr (Or.inr t)
/-- the reference's piece more: set, then born -/
theorem R_add {s x y d e : Int32} {u v : Nat} (hs : s.toInt = (S : Int)) (hx : x.toInt = (u : Int)) (hy : y.toInt = (v : Int)) (hN : rD hr (.inl 105) 12 = N) (S12 : S ≤ 12) (hu : u < 6) (hv : v < 6) (hn : u ≠ v) (hG : gr = f193 s x y (f181 s x y (hr.2.1 (.inl 105) 12) d e hr)) :
    gr.1 = hr.1 ∧ gr.2.2 = hr.2.2 ∧ (∀ q i, gr.2.1 (.inr q) i = hr.2.1 (.inr q) i) ∧ (∀ i, gr.2.1 (.inl 113) i = if i = 36 * S + 6 * v + u then hr.2.1 (.inl 105) 12 + 1 else if i = 36 * S + 6 * u + v then hr.2.1 (.inl 105) 12 + 1 else hr.2.1 (.inl 113) i) ∧
    (∀ i, gr.2.1 (.inl 111) i = if i = 36 * S + 6 * v + u then d else if i = 36 * S + 6 * u + v then d else hr.2.1 (.inl 111) i) ∧ (∀ i, gr.2.1 (.inl 112) i = if i = 36 * S + 6 * v + u then e else if i = 36 * S + 6 * u + v then e else hr.2.1 (.inl 112) i) ∧
    (∀ i, gr.2.1 (.inl 116) i = if i = N then 1 else hr.2.1 (.inl 116) i) ∧ (∀ i, gr.2.1 (.inl 117) i = if i = N then f179 s x y + 1 else hr.2.1 (.inl 117) i) ∧ gr.2.1 (.inl 105) 12 = hr.2.1 (.inl 105) 12 + 1 ∧ (∀ i, i ≠ 12 → gr.2.1 (.inl 105) i = hr.2.1 (.inl 105) i) ∧
    ∀ q i, q ≠ 105 → q ≠ 111 → q ≠ 112 → q ≠ 113 → q ≠ 116 → q ≠ 117 → gr.2.1 (.inl q) i = hr.2.1 (.inl q) i := by
  have m1 : ¬ 36 * S + 6 * u + v = 36 * S + 6 * v + u := by omega
  rw [k181 hs hx hy S12 hu hv] at hG
  generalize hh : k_p (k_p hr (36 * S + 6 * u + v) (hr.2.1 (.inl 105) 12) d e) (36 * S + 6 * v + u) (hr.2.1 (.inl 105) 12) d e = h at hG
  have t12 : h.2.1 (.inl 105) 12 = hr.2.1 (.inl 105) 12 := by
    rw [← hh]
    rfl
  have t113 : ∀ i, h.2.1 (.inl 113) i = if i = 36 * S + 6 * v + u then hr.2.1 (.inl 105) 12 + 1 else if i = 36 * S + 6 * u + v then hr.2.1 (.inl 105) 12 + 1 else hr.2.1 (.inl 113) i := fun i => by rw [← hh, k_p3, k_p3]
  have t111 : ∀ i, h.2.1 (.inl 111) i = if i = 36 * S + 6 * v + u then d else if i = 36 * S + 6 * u + v then d else hr.2.1 (.inl 111) i := fun i => by rw [← hh, k_p1, k_p1]
  have t112 : ∀ i, h.2.1 (.inl 112) i = if i = 36 * S + 6 * v + u then e else if i = 36 * S + 6 * u + v then e else hr.2.1 (.inl 112) i := fun i => by rw [← hh, k_p2, k_p2]
  have d1 : h.2.1 (.inl 111) (36 * S + 6 * u + v) = d := by rw [t111, if_neg m1, if_pos rfl]
  have d2 : h.2.1 (.inl 112) (36 * S + 6 * u + v) = e := by rw [t112, if_neg m1, if_pos rfl]
  rw [R193 hs hx hy (show rD h (.inl 105) 12 = N by unfold rD; rw [t12]; exact hN) S12 hu hv, d1, d2, t12] at hG
  refine ⟨?_, ?_, fun q i => ?_, fun i => ?_, fun i => ?_, fun i => ?_, fun i => ?_, fun i => ?_, ?_, fun i hi => ?_, fun q i q0 q1 q2 q3 q4 q5 => ?_⟩
  · rw [hG, ← hh]
    rfl
  · rw [hG, ← hh]
    rfl
  · rw [hG, ← hh]
    rfl
  · rw [hG]
    show (k_p (k_p (mx_uI (mx_uI h (.inl 116) N 1) (.inl 117) N (f179 s x y + 1)) (36 * S + 6 * u + v) (hr.2.1 (.inl 105) 12) d e) (36 * S + 6 * v + u) (hr.2.1 (.inl 105) 12) d e).2.1 (.inl 113) i = _
    rw [k_p3, k_p3]
    show (if i = 36 * S + 6 * v + u then hr.2.1 (.inl 105) 12 + 1 else if i = 36 * S + 6 * u + v then hr.2.1 (.inl 105) 12 + 1 else h.2.1 (.inl 113) i) = _
    rw [t113]
    by_cases e1 : i = 36 * S + 6 * v + u
    · rw [if_pos e1, if_pos e1]
    · rw [if_neg e1, if_neg e1]
      by_cases e2 : i = 36 * S + 6 * u + v
      · rw [if_pos e2, if_pos e2]
      · rw [if_neg e2, if_neg e2]
  · rw [hG]
    show (k_p (k_p (mx_uI (mx_uI h (.inl 116) N 1) (.inl 117) N (f179 s x y + 1)) (36 * S + 6 * u + v) (hr.2.1 (.inl 105) 12) d e) (36 * S + 6 * v + u) (hr.2.1 (.inl 105) 12) d e).2.1 (.inl 111) i = _
    rw [k_p1, k_p1]
    show (if i = 36 * S + 6 * v + u then d else if i = 36 * S + 6 * u + v then d else h.2.1 (.inl 111) i) = _
    rw [t111]
    by_cases e1 : i = 36 * S + 6 * v + u
    · rw [if_pos e1, if_pos e1]
    · rw [if_neg e1, if_neg e1]
      by_cases e2 : i = 36 * S + 6 * u + v
      · rw [if_pos e2, if_pos e2]
      · rw [if_neg e2, if_neg e2]
  · rw [hG]
    show (k_p (k_p (mx_uI (mx_uI h (.inl 116) N 1) (.inl 117) N (f179 s x y + 1)) (36 * S + 6 * u + v) (hr.2.1 (.inl 105) 12) d e) (36 * S + 6 * v + u) (hr.2.1 (.inl 105) 12) d e).2.1 (.inl 112) i = _
    rw [k_p2, k_p2]
    show (if i = 36 * S + 6 * v + u then e else if i = 36 * S + 6 * u + v then e else h.2.1 (.inl 112) i) = _
    rw [t112]
    by_cases e1 : i = 36 * S + 6 * v + u
    · rw [if_pos e1, if_pos e1]
    · rw [if_neg e1, if_neg e1]
      by_cases e2 : i = 36 * S + 6 * u + v
      · rw [if_pos e2, if_pos e2]
      · rw [if_neg e2, if_neg e2]
  · rw [hG]
    show (mx_uI h (.inl 116) N 1).2.1 (.inl 116) i = _
    by_cases e1 : i = N
    · rw [if_pos e1, rI_c rfl e1]
    · rw [if_neg e1, rI_i e1, ← hh]
      rfl
  · rw [hG]
    show (mx_uI (mx_uI h (.inl 116) N 1) (.inl 117) N (f179 s x y + 1)).2.1 (.inl 117) i = _
    by_cases e1 : i = N
    · rw [if_pos e1, rI_c rfl e1]
    · rw [if_neg e1, rI_i e1, ← hh]
      rfl
  · rw [hG, rI_s]
  · rw [hG, rI_i hi, ← hh]
    rfl
  · rw [hG, rN q0, k_po q1 q2 q3, k_po q1 q2 q3, rN q5, rN q4, ← hh, k_po q1 q2 q3, k_po q1 q2 q3]
end RQ
/-! ===== pieces of a shape copied into the draft, on both sides ===== -/
section RU
variable {h h' h'' hc hr gc gr hc0 hr0 : mx_H} {S N n C M k s1 b B u v s : Nat} {a1 a2 a3 a4 a5 : Int32}
theorem i_div {x y : Int32} {p q : Nat} (hx : x.toInt = (p : Int)) (hy : y.toInt = (q : Int)) : (x / y).toInt = ((p / q : Nat) : Int) := by
  have b := i_b x
  have l : p / q ≤ p := Nat.div_le_self _ _
  have e : ((p : Int) / (q : Int)) = ((p / q : Nat) : Int) := rfl
  generalize p / q = r at l e ⊢
  rw [Int32.toInt_div, hx, hy, Int.tdiv_eq_ediv_of_nonneg (by omega), e, iv_bm (by omega) (by omega)]
theorem R_dec {t : Int32} (ht : t.toInt = ((36 * s + 6 * u + v : Nat) : Int)) (hu : u < 6) (hv : v < 6) (s12 : s ≤ 12) : (t / 36).toInt = (s : Int) ∧ (t / 6 - t / 6 / 6 * 6).toInt = (u : Int) ∧ (t - t / 6 * 6).toInt = (v : Int) := by
  have n6 : (6 : Int32).toInt = ((6 : Nat) : Int) := rfl
  have e1 := i_div ht (show (36 : Int32).toInt = ((36 : Nat) : Int) from rfl)
  have e2 := i_div ht n6
  have e3 := i_div e2 n6
  rw [show (36 * s + 6 * u + v) / 36 = s by omega] at e1
  rw [show (36 * s + 6 * u + v) / 6 = 6 * s + u by omega] at e2 e3
  rw [show (6 * s + u) / 6 = s by omega] at e3
  have e4 := i_mul e3 k_6 (by omega) (by omega)
  have e5 := i_mul e2 k_6 (by omega) (by omega)
  refine ⟨e1, ?_, ?_⟩
  · rw [i_sub e2 e4 (by omega) (by omega)]
    omega
  · rw [i_sub ht e5 (by omega) (by omega)]
    omega
theorem R278a (h4 : a4.toInt = (B : Int)) (h5 : a5.toInt = (b : Int)) (hb : b < B) (z : h.2.1 (.inl 117) b = 0) : g278_9 a1 a2 a3 a4 a5 h = g278_9 a1 a2 a3 a4 (a5 + 1) h := by
  rw [g278_9_eq, if_neg (i_nle h4 h5 (by omega)), i_cl h5, z, if_pos (by decide +kernel)]
theorem R278t (hh : rD h (.inl 117) b = ((36 * s + 6 * u + v + 1 : Nat) : Int)) (hu : u < 6) (hv : v < 6) (s12 : s ≤ 12) : (h.2.1 (.inl 117) b - 1).toInt = ((36 * s + 6 * u + v : Nat) : Int) := by
  rw [i_sub hh k_1 (by omega) (by omega)]
  omega
theorem R278b (h1 : a1.toInt = (s1 : Int)) (h4 : a4.toInt = (B : Int)) (h5 : a5.toInt = (b : Int)) (hb : b < B) (hh : rD h (.inl 117) b = ((36 * s + 6 * u + v + 1 : Nat) : Int)) (hu : u < 6) (hv : v < 6) (s12 : s ≤ 12) (ne : s ≠ s1) : g278_9 a1 a2 a3 a4 a5 h = g278_9 a1 a2 a3 a4 (a5 + 1) h := by
  have t := R278t hh hu hv s12
  obtain ⟨d1, d2, d3⟩ := R_dec t hu hv s12
  rw [g278_9_eq, if_neg (i_nle h4 h5 (by omega)), i_cl h5, if_neg (i_nlt t k_0 (by omega)), if_neg (i_ne d1 h1 (by omega))]
theorem R278c {o : Nat} (h1 : a1.toInt = (s : Int)) (h3 : a3.toInt = (o : Int)) (o6 : o ≤ 6) (h4 : a4.toInt = (B : Int)) (h5 : a5.toInt = (b : Int)) (hb : b < B) (hh : rD h (.inl 117) b = ((36 * s + 6 * u + v + 1 : Nat) : Int)) (hu : u < 6) (hv : v < 6) (s12 : s ≤ 12) :
    ∃ x y : Int32, x.toInt = ((o + u : Nat) : Int) ∧ y.toInt = ((o + v : Nat) : Int) ∧ g278_9 a1 a2 a3 a4 a5 h = g278_9 a1 a2 a3 a4 (a5 + 1) (f193 a2 x y (f181 a2 x y (h.2.1 (.inl 105) 12) (h.2.1 (.inl 111) (36 * s + 6 * u + v)) (h.2.1 (.inl 112) (36 * s + 6 * u + v)) h)) := by
  have t := R278t hh hu hv s12
  obtain ⟨d1, d2, d3⟩ := R_dec t hu hv s12
  refine ⟨_, _, (i_add d2 h3 (by omega) (by omega)).trans (by omega), (i_add d3 h3 (by omega) (by omega)).trans (by omega), ?_⟩
  rw [g278_9_eq, if_neg (i_nle h4 h5 (by omega)), i_cl h5, if_neg (i_nlt t k_0 (by omega)), if_pos (i_eq d1 h1 rfl), i_cl t]
  rfl
/-- the class's piece k of shape s1, copied -/
def k_cp (h : mx_H) (S s1 M k : Nat) (a2 : Int32) : mx_H := mx_uI (k_ap h S M (a2 + h.2.1 (.inr (s1, 5)) k) (a2 + h.2.1 (.inr (s1, 6)) k) (h.2.1 (.inr (s1, 7)) k)) (.inr (S, 8)) M (h.2.1 (.inr (s1, 8)) k)
theorem k_apo {a c d : Int32} {q i o : Nat} (hs : q ≠ S) : (k_ap h S M a c d).2.1 (.inr (q, o)) i = h.2.1 (.inr (q, o)) i := by
  have ne : ∀ o' : Nat, (Sum.inr (q, o) : mx_A) ≠ .inr (S, o') := fun o' e => by
    cases e
    exact hs rfl
  unfold k_ap
  rw [rI_a (ne 0), rI_a (ne 8), rI_a (ne 7), rI_a (ne 6), rI_a (ne 5)]
theorem C64b (hs : s1 ≠ S) (h6 : rD h (.inr (s1, 0)) 6 = n) (hM : rD h (.inr (S, 0)) 6 = M) (M15 : M < 15) (ha : a3.toInt = (k : Int)) (hk : k < n) : g64_102 S s1 a2 a3 h = g64_102 S s1 a2 (a3 + 1) (k_cp h S s1 M k a2) := by
  rw [g64_102_eq, if_neg (i_nle h6 ha (by omega)), if_neg (i_nle k_15 hM (by omega)), i_cl ha]
  show g64_102 S s1 a2 (a3 + 1) (mx_uI (f63 S (a2 + h.2.1 (.inr (s1, 5)) k) (a2 + h.2.1 (.inr (s1, 6)) k) (h.2.1 (.inr (s1, 7)) k) h) (.inr (S, 8)) (Int32.toNatClampNeg ((f63 S (a2 + h.2.1 (.inr (s1, 5)) k) (a2 + h.2.1 (.inr (s1, 6)) k) (h.2.1 (.inr (s1, 7)) k) h).2.1 (.inr (S, 0)) 6 - 1)) ((f63 S (a2 + h.2.1 (.inr (s1, 5)) k) (a2 + h.2.1 (.inr (s1, 6)) k) (h.2.1 (.inr (s1, 7)) k) h).2.1 (.inr (s1, 8)) k)) = _
  have e : ((k_ap h S M (a2 + h.2.1 (.inr (s1, 5)) k) (a2 + h.2.1 (.inr (s1, 6)) k) (h.2.1 (.inr (s1, 7)) k)).2.1 (.inr (S, 0)) 6 - 1).toInt = (M : Int) := by
    rw [ka0, if_pos rfl, i_sub (i_add hM k_1 (by omega) (by omega)) k_1 (by omega) (by omega)]
    omega
  rw [k63 hM M15, i_cl e, k_apo hs]
  rfl
/-- what a piece more changes -/
def rj_c (S : Nat) (h h' : mx_H) : Prop := h'.1 = h.1 ∧ h'.2.2 = h.2.2 ∧ (∀ k i, h'.2.1 (.inl k) i = h.2.1 (.inl k) i) ∧ ∀ s o i, ¬ (s = S ∧ ((o = 0 ∧ i = 6) ∨ (5 ≤ o ∧ o < 9))) → h'.2.1 (.inr (s, o)) i = h.2.1 (.inr (s, o)) i
def rj_r (N S : Nat) (h g : mx_H) : Prop := g.1 = h.1 ∧ g.2.2 = h.2.2 ∧ (∀ q i, g.2.1 (.inr q) i = h.2.1 (.inr q) i) ∧ ∀ k i, ¬ ((k = 111 ∨ k = 112 ∨ k = 113) ∧ 36 * S ≤ i ∧ i < 36 * S + 36) → ¬ (k = 105 ∧ i = 12) → ¬ ((k = 116 ∨ k = 117) ∧ N ≤ i) → g.2.1 (.inl k) i = h.2.1 (.inl k) i
theorem rj_c.refl : rj_c S h h := ⟨rfl, rfl, fun _ _ => rfl, fun _ _ _ _ => rfl⟩
theorem rj_r.refl : rj_r N S h h := ⟨rfl, rfl, fun _ _ => rfl, fun _ _ _ _ _ => rfl⟩
theorem rj_c.trans (a : rj_c S h h') (b : rj_c S h' h'') : rj_c S h h'' := ⟨b.1.trans a.1, b.2.1.trans a.2.1, fun k i => (b.2.2.1 k i).trans (a.2.2.1 k i), fun s o i q => (b.2.2.2 s o i q).trans (a.2.2.2 s o i q)⟩
theorem rj_r.trans (a : rj_r N S h h') (b : rj_r N S h' h'') : rj_r N S h h'' := ⟨b.1.trans a.1, b.2.1.trans a.2.1, fun k i => (b.2.2.1 k i).trans (a.2.2.1 k i), fun k i p q r => (b.2.2.2 k i p q r).trans (a.2.2.2 k i p q r)⟩
theorem k_apF {a c d : Int32} : rj_c S h (k_ap h S M a c d) := ⟨rfl, rfl, fun _ _ => rfl, fun s o i q => by
  by_cases e : s = S
  · subst e
    by_cases e0 : o = 0
    · subst e0
      rw [ka0, if_neg (by omega)]
    · rw [kao e0 (by omega) (by omega) (by omega) (by omega)]
  · exact k_apo e⟩
theorem rj_c.w {i : Nat} {v : Int32} : rj_c S h (mx_uI h (.inr (S, 8)) i v) := ⟨rfl, rfl, fun _ _ => rfl, fun s o j q => by
  by_cases e : s = S ∧ o = 8
  · exact absurd ⟨e.1, Or.inr (by omega)⟩ q
  · exact rI_a (fun t => e ⟨congrArg Prod.fst (Sum.inr.inj t), congrArg Prod.snd (Sum.inr.inj t)⟩)⟩
theorem k_cpF : rj_c S h (k_cp h S s1 M k a2) := by
  unfold k_cp
  exact rj_c.trans k_apF rj_c.w
end RU
/-! ===== the copy loops walk together ===== -/
section RV
variable {h h' h'' hc hr gc gr hc0 hr0 : mx_H} {S N n C M k s1 b B u v s o C1 F1 u0 v0 : Nat} {a1 a2 a3 a4 a5 c2 x y : Int32}
theorem k_cp5 {i : Nat} : (k_cp h S s1 M k a2).2.1 (.inr (S, 5)) i = if i = M then k_mn (a2 + h.2.1 (.inr (s1, 5)) k) (a2 + h.2.1 (.inr (s1, 6)) k) else h.2.1 (.inr (S, 5)) i := by
  unfold k_cp
  rw [rS (by decide +kernel), ka5]
theorem k_cp6 {i : Nat} : (k_cp h S s1 M k a2).2.1 (.inr (S, 6)) i = if i = M then k_mx (a2 + h.2.1 (.inr (s1, 5)) k) (a2 + h.2.1 (.inr (s1, 6)) k) else h.2.1 (.inr (S, 6)) i := by
  unfold k_cp
  rw [rS (by decide +kernel), ka6]
theorem k_cp7 {i : Nat} : (k_cp h S s1 M k a2).2.1 (.inr (S, 7)) i = if i = M then h.2.1 (.inr (s1, 7)) k else h.2.1 (.inr (S, 7)) i := by
  unfold k_cp
  rw [rS (by decide +kernel), ka7]
theorem k_cp8 {i : Nat} : (k_cp h S s1 M k a2).2.1 (.inr (S, 8)) i = if i = M then h.2.1 (.inr (s1, 8)) k else h.2.1 (.inr (S, 8)) i := by
  unfold k_cp
  by_cases e : i = M
  · rw [rI_c rfl e, if_pos e]
  · rw [rI_i e, ka8, if_neg e, if_neg e]
theorem k_cp0 : (k_cp h S s1 M k a2).2.1 (.inr (S, 0)) 6 = h.2.1 (.inr (S, 0)) 6 + 1 := by
  unfold k_cp
  rw [rS (by decide +kernel), ka0, if_pos rfl]
/-- so far: k pieces of s1, moved by o corners -/
def rj_Z (hc0 hr0 hc hr : mx_H) (S C N M s1 C1 F1 o k : Nat) : Prop := rj_c S hc0 hc ∧ rj_r N S hr0 hr ∧ rj_J hc hr S C N M ∧ ∀ u v, u < 6 → v < 6 → ¬ hr.2.1 (.inl 113) (36 * S + 6 * u + v) = 0 → (u < o ∧ v < o) ∨ ∃ k' u0 v0, k' < k ∧ rs_k hc0 hr0 s1 C1 F1 k' u0 v0 ∧ ((u = o + u0 ∧ v = o + v0) ∨ (u = o + v0 ∧ v = o + u0))
/-! numbers, apart from the heaps (omega is slow where many facts stand) -/
theorem i_suc {x : Int32} {n : Nat} (h : x.toInt = (n : Int)) (l : n ≤ 2147483646) : (x + 1).toInt = ((n + 1 : Nat) : Int) := (i_add h k_1 (by omega) (by omega)).trans (by omega)
theorem i_addn {x y : Int32} {p q : Nat} (hx : x.toInt = (p : Int)) (hy : y.toInt = (q : Int)) (l : p + q ≤ 2147483647) : (x + y).toInt = ((p + q : Nat) : Int) := (i_add hx hy (by omega) (by omega)).trans (by omega)
theorem rjn_ne {x : Int} {F a b : Nat} (p : x = ((F + a + 1 : Nat) : Int)) (q : x = ((F + b + 1 : Nat) : Int)) (h : a < b) : False := by omega
theorem rjn_o1 {u0 v0 u1 v1 : Nat} (w : (o + u0 = o + u1 ∧ o + v0 = o + v1) ∨ (o + u0 = o + v1 ∧ o + v0 = o + u1)) (f : ¬ (u1 = u0 ∧ v1 = v0) ∧ ¬ (u1 = v0 ∧ v1 = u0)) : False := by omega
theorem rjn_o2 {u0 v0 u1 v1 : Nat} (w : (o + v0 = o + u1 ∧ o + u0 = o + v1) ∨ (o + v0 = o + v1 ∧ o + u0 = o + u1)) (f : ¬ (u1 = u0 ∧ v1 = v0) ∧ ¬ (u1 = v0 ∧ v1 = u0)) : False := by omega
theorem rjn_n {u0 v0 : Nat} (C6 : C ≤ 6) (oC : o + C1 ≤ C) (q1 : u0 < C1) (q2 : v0 < C1) (q3 : u0 ≠ v0) : (o ≤ 6 ∧ u0 < 6 ∧ v0 < 6) ∧ (o + u0 < 6 ∧ o + v0 < 6) ∧ (o + u0 < C ∧ o + v0 < C) ∧ o + u0 ≠ o + v0 ∧ (o + min u0 v0 ≤ 2147483647 ∧ o + max u0 v0 ≤ 2147483647) := ⟨⟨by omega, by omega, by omega⟩, ⟨by omega, by omega⟩, ⟨by omega, by omega⟩, by omega, ⟨by omega, by omega⟩⟩
theorem rjn_far {u v : Nat} (ne : s1 ≠ S) (hu : u < 6) (hv : v < 6) : ¬ (36 * S ≤ 36 * s1 + 6 * u + v ∧ 36 * s1 + 6 * u + v < 36 * S + 36) := by omega
theorem rjn_mn {u v : Nat} : ((min (o + min u v) (o + max u v) : Nat) : Int) = ((min (o + u) (o + v) : Nat) : Int) := by omega
theorem rjn_mx {u v : Nat} : ((max (o + min u v) (o + max u v) : Nat) : Int) = ((max (o + u) (o + v) : Nat) : Int) := by omega
theorem rjn_b {u v : Nat} (S12 : S ≤ 12) (hu : u < 6) (hv : v < 6) : 36 * S + 6 * u + v ≤ 2147483646 := by omega
theorem rjn_i {u v i : Nat} (hu : u < 6) (hv : v < 6) (p : ¬ (36 * S ≤ i ∧ i < 36 * S + 36)) : ¬ i = 36 * S + 6 * u + v := by omega
theorem rjn_0 {F1 : Nat} (K : (b ≤ F1 ∧ k = 0) ∨ (F1 < b ∧ b ≤ F1 + n ∧ k = b - F1) ∨ (F1 + n < b ∧ k = n)) (e : b + 0 = B) (NB : N ≤ B) (fn : F1 + n ≤ N) : k = n ∧ (B : Int) ≤ (b : Int) := ⟨by omega, by omega⟩
theorem rjn_2 {j : Nat} (e : b + (j + 1) = B) (BM : B ≤ N + M) (room : N + M + (n - k) ≤ 200) : b ≤ 2147483646 ∧ b < B ∧ b + 1 + j = B := ⟨by omega, by omega, by omega⟩
theorem rjn_3 {F1 : Nat} (K : (b ≤ F1 ∧ k = 0) ∨ (F1 < b ∧ b ≤ F1 + n ∧ k = b - F1) ∨ (F1 + n < b ∧ k = n)) (c : F1 ≤ b ∧ b < F1 + n) (fn : F1 + n ≤ N) : F1 + k = b ∧ k < n ∧ b < N ∧ ((b + 1 ≤ F1 ∧ k + 1 = 0) ∨ (F1 < b + 1 ∧ b + 1 ≤ F1 + n ∧ k + 1 = b + 1 - F1) ∨ (F1 + n < b + 1 ∧ k + 1 = n)) := ⟨by omega, by omega, by omega, by omega⟩
theorem rjn_5 {F1 : Nat} (fn : F1 + n ≤ N) (room : N + M + (n - k) ≤ 200) (kn : k < n) : N + M < 200 ∧ N + (M + 1) + (n - (k + 1)) ≤ 200 ∧ M + 1 + (n - (k + 1)) = M + (n - k) ∧ k ≤ 2147483646 := ⟨by omega, by omega, by omega, by omega⟩
theorem rjn_9 (h : ¬ b < N) (NB : N ≤ B) (bB : b < B) (BM : B ≤ N + M) : b - N < M ∧ N + (b - N) = b := ⟨by omega, by omega⟩
theorem rjn_11 {F1 : Nat} (K : (b ≤ F1 ∧ k = 0) ∨ (F1 < b ∧ b ≤ F1 + n ∧ k = b - F1) ∨ (F1 + n < b ∧ k = n)) (c : ¬ (F1 ≤ b ∧ b < F1 + n)) : (b + 1 ≤ F1 ∧ k = 0) ∨ (F1 < b + 1 ∧ b + 1 ≤ F1 + n ∧ k = b + 1 - F1) ∨ (F1 + n < b + 1 ∧ k = n) := by omega
theorem rj_step (Z : rj_Z hc0 hr0 hc hr S C N M s1 C1 F1 o k) (Q : rs_k hc0 hr0 s1 C1 F1 k u0 v0) (oC : o + C1 ≤ C) (ne : s1 ≠ S) (S12 : S ≤ 12) (NM : N + M < 200) (h2 : c2.toInt = (o : Int)) (hs : a2.toInt = (S : Int)) (hx : x.toInt = ((o + u0 : Nat) : Int)) (hy : y.toInt = ((o + v0 : Nat) : Int)) :
    M < 15 ∧ rj_Z hc0 hr0 (k_cp hc S s1 M k c2) (f193 a2 x y (f181 a2 x y (hr.2.1 (.inl 105) 12) (hr.2.1 (.inl 111) (36 * s1 + 6 * u0 + v0)) (hr.2.1 (.inl 112) (36 * s1 + 6 * u0 + v0)) hr)) S C N (M + 1) s1 C1 F1 o (k + 1) := by
  obtain ⟨fc, fr, J, O⟩ := Z
  obtain ⟨q1, q2, q3, q4, q5, q6, q7, q8, q9, q10, q11, q12⟩ := id Q
  obtain ⟨⟨o6, u06, v06⟩, ⟨u6, v6⟩, ⟨uC, vC⟩, nuv, mb, xb⟩ := rjn_n J.1 oC q1 q2 q3
  have far : ∀ k' u1 v1, k' < k → rs_k hc0 hr0 s1 C1 F1 k' u1 v1 → ¬ (u1 = u0 ∧ v1 = v0) ∧ ¬ (u1 = v0 ∧ v1 = u0) := fun k' u1 v1 hk P => by
    have p6 := P.2.2.2.2.2.1
    refine ⟨fun t => ?_, fun t => ?_⟩
    · rw [t.1, t.2] at p6
      exact rjn_ne p6 q6 hk
    · rw [t.1, t.2] at p6
      exact rjn_ne p6 q7 hk
  have z1 : hr.2.1 (.inl 113) (36 * S + 6 * (o + u0) + (o + v0)) = 0 := Classical.byContradiction fun t => by
    rcases O (o + u0) (o + v0) u6 v6 t with w | ⟨k', u1, v1, w1, w2, w3⟩
    · exact absurd w.1 (Nat.not_lt.mpr (Nat.le_add_right _ _))
    · exact rjn_o1 w3 (far k' u1 v1 w1 w2)
  have z2 : hr.2.1 (.inl 113) (36 * S + 6 * (o + v0) + (o + u0)) = 0 := Classical.byContradiction fun t => by
    rcases O (o + v0) (o + u0) v6 u6 t with w | ⟨k', u1, v1, w1, w2, w3⟩
    · exact absurd w.1 (Nat.not_lt.mpr (Nat.le_add_right _ _))
    · exact rjn_o2 w3 (far k' u1 v1 w1 w2)
  have M15 := rj_15 J u6 v6 nuv z1 z2
  refine ⟨M15, ?_⟩
  have e5 : (hc.2.1 (.inr (s1, 5)) k).toInt = ((min u0 v0 : Nat) : Int) := by
    rw [fc.2.2.2 s1 5 k (fun t => ne t.1)]
    exact q4
  have e6 : (hc.2.1 (.inr (s1, 6)) k).toInt = ((max u0 v0 : Nat) : Int) := by
    rw [fc.2.2.2 s1 6 k (fun t => ne t.1)]
    exact q5
  have x5 : (c2 + hc.2.1 (.inr (s1, 5)) k).toInt = ((o + min u0 v0 : Nat) : Int) := i_addn h2 e5 mb
  have x6 : (c2 + hc.2.1 (.inr (s1, 6)) k).toInt = ((o + max u0 v0 : Nat) : Int) := i_addn h2 e6 xb
  have e7 : hr.2.1 (.inl 111) (36 * s1 + 6 * u0 + v0) = hc.2.1 (.inr (s1, 7)) k := by
    rw [fc.2.2.2 s1 7 k (fun t => ne t.1), fr.2.2.2 111 _ (fun t => rjn_far ne u06 v06 t.2) (fun t => absurd t.1 (by decide +kernel)) (fun t => absurd t.1 (by decide +kernel))]
    exact q8
  have e8 : hr.2.1 (.inl 112) (36 * s1 + 6 * u0 + v0) = hc.2.1 (.inr (s1, 8)) k := by
    rw [fc.2.2.2 s1 8 k (fun t => ne t.1), fr.2.2.2 112 _ (fun t => rjn_far ne u06 v06 t.2) (fun t => absurd t.1 (by decide +kernel)) (fun t => absurd t.1 (by decide +kernel))]
    exact q10
  rw [e7, e8]
  generalize hG : f193 a2 x y (f181 a2 x y (hr.2.1 (.inl 105) 12) (hc.2.1 (.inr (s1, 7)) k) (hc.2.1 (.inr (s1, 8)) k) hr) = g
  have j2 := J.2.2.1
  obtain ⟨r1, r2, r3, r4, r5, r6, r7, r8, r9, r10, r11⟩ := R_add (N := N + M) hs hx hy j2 S12 u6 v6 nuv hG.symm
  have bo : (hr.2.1 (.inl 105) 12 + 1).toInt = ((N + M + 1 : Nat) : Int) := i_suc j2 (Nat.le_trans (Nat.le_of_lt NM) (by decide +kernel))
  have w := w179 hs hx hy S12 u6 v6
  have A := rj_add (u := o + u0) (v := o + v0) J uC vC nuv z1 z2 (gc := k_cp hc S s1 M k c2) (gr := g) (fun i => k_cp5) (fun i => k_cp6) (fun i => k_cp7) (fun i => k_cp8)
    (by unfold rD; rw [k_cp0]; exact i_suc J.2.1 (Nat.le_trans (Nat.le_of_lt M15) (by decide +kernel))) ((k_mn_v x5 x6).trans rjn_mn) ((k_mx_v x5 x6).trans rjn_mx) bo (w := f179 a2 x y + 1) (i_suc w (rjn_b S12 u6 v6)) r4 r5 r6 r7 r8 (by unfold rD; rw [r9]; exact bo) (by rw [fc.2.2.2 s1 8 k (fun t => ne t.1), fc.2.2.2 s1 7 k (fun t => ne t.1)]; exact q12.2)
  refine ⟨fc.trans k_cpF, fr.trans ⟨r1, r2, r3, fun a i p1 p2 p3 => ?_⟩, A.1, fun u v hu hv t => ?_⟩
  · by_cases c105 : a = 105
    · subst c105
      exact r10 i (fun e => p2 ⟨rfl, e⟩)
    · by_cases c111 : a = 111
      · subst c111
        rw [r5, if_neg (rjn_i v6 u6 (fun t => p1 ⟨Or.inl rfl, t⟩)), if_neg (rjn_i u6 v6 (fun t => p1 ⟨Or.inl rfl, t⟩))]
      · by_cases c112 : a = 112
        · subst c112
          rw [r6, if_neg (rjn_i v6 u6 (fun t => p1 ⟨Or.inr (Or.inl rfl), t⟩)), if_neg (rjn_i u6 v6 (fun t => p1 ⟨Or.inr (Or.inl rfl), t⟩))]
        · by_cases c113 : a = 113
          · subst c113
            rw [r4, if_neg (rjn_i v6 u6 (fun t => p1 ⟨Or.inr (Or.inr rfl), t⟩)), if_neg (rjn_i u6 v6 (fun t => p1 ⟨Or.inr (Or.inr rfl), t⟩))]
          · by_cases c116 : a = 116
            · subst c116
              rw [r7, if_neg (fun e => p3 ⟨Or.inl rfl, by rw [e]; exact Nat.le_add_right _ _⟩)]
            · by_cases c117 : a = 117
              · subst c117
                rw [r8, if_neg (fun e => p3 ⟨Or.inr rfl, by rw [e]; exact Nat.le_add_right _ _⟩)]
              · exact r11 a i c105 c111 c112 c113 c116 c117
  · rcases A.2 u v hu hv t with t | t | t
    · exact Or.inr ⟨k, u0, v0, Nat.lt_succ_self k, Q, Or.inl t⟩
    · exact Or.inr ⟨k, u0, v0, Nat.lt_succ_self k, Q, Or.inr t⟩
    · rcases O u v hu hv t with w | ⟨k', u1, v1, w1, w2, w3⟩
      · exact Or.inl w
      · exact Or.inr ⟨k', u1, v1, Nat.lt_succ_of_lt w1, w2, w3⟩
/-- both loops, from body b on -/
theorem rj_copy (D : rs_D hc0 hr0 N s1 C1 n F1) (Hm : ∀ b, b < N → ¬ (F1 ≤ b ∧ b < F1 + n) → hr0.2.1 (.inl 117) b = 0 ∨ ∃ s u v : Nat, s ≤ 12 ∧ s ≠ s1 ∧ u < 6 ∧ v < 6 ∧ rD hr0 (.inl 117) b = ((36 * s + 6 * u + v + 1 : Nat) : Int)) (oC : o + C1 ≤ C) (lt : s1 < S) (S12 : S ≤ 12) (h1 : a1.toInt = (s1 : Int)) (h2 : c2.toInt = (o : Int)) (hs : a2.toInt = (S : Int)) (h4 : a4.toInt = (B : Int)) (NB : N ≤ B) :
    ∀ (j b k M : Nat) (a3 a5 : Int32) {hc hr : mx_H}, b + j = B → a5.toInt = (b : Int) → a3.toInt = (k : Int) → (b ≤ F1 ∧ k = 0) ∨ (F1 < b ∧ b ≤ F1 + n ∧ k = b - F1) ∨ (F1 + n < b ∧ k = n) → B ≤ N + M → N + M + (n - k) ≤ 200 → rj_Z hc0 hr0 hc hr S C N M s1 C1 F1 o k → rj_Z hc0 hr0 (g64_102 S s1 c2 a3 hc) (g278_9 a1 a2 c2 a4 a5 hr) S C N (M + (n - k)) s1 C1 F1 o n
  | 0, b, k, M, a3, a5, hc, hr, e, hb, ha, K, BM, room, Z => by
    obtain ⟨kn, le⟩ := rjn_0 K e NB D.2.2.1
    have h6 : rD hc (.inr (s1, 0)) 6 = n := by
      unfold rD
      rw [Z.1.2.2.2 s1 0 6 (fun t => absurd t.1 (Nat.ne_of_lt lt))]
      exact D.2.2.2.2.2.1
    subst kn
    rw [g64_102_eq, if_pos (i_le h6 ha (Int.le_refl _)), g278_9_eq, if_pos (i_le h4 hb le), Nat.sub_self, Nat.add_zero]
    exact Z
  | j + 1, b, k, M, a3, a5, hc, hr, e, hb, ha, K, BM, room, Z => by
    have fn := D.2.2.1
    have C6 := Z.2.2.1.1
    have ne : s1 ≠ S := Nat.ne_of_lt lt
    obtain ⟨bb, bB, e'⟩ := rjn_2 e BM room
    have hb1 : (a5 + 1).toInt = ((b + 1 : Nat) : Int) := i_suc hb bb
    by_cases c : F1 ≤ b ∧ b < F1 + n
    · obtain ⟨fkb, kn, bN, K'⟩ := rjn_3 K c fn
      obtain ⟨NM, room', en, kb⟩ := rjn_5 fn room kn
      obtain ⟨u0, v0, Q⟩ := D.2.2.2.2.2.2.2.2.2.1 k kn
      have hh : rD hr (.inl 117) b = ((36 * s1 + 6 * u0 + v0 + 1 : Nat) : Int) := by
        have q := Q.2.2.2.2.2.2.2.2.2.2.2.1
        rw [fkb] at q
        unfold rD at q ⊢
        rw [Z.2.1.2.2.2 117 b (fun t => absurd t.1 (by decide +kernel)) (fun t => absurd t.1 (by decide +kernel)) (fun t => absurd bN (Nat.not_lt.mpr t.2))]
        exact q
      obtain ⟨⟨o6, u06, v06⟩, -⟩ := rjn_n C6 oC Q.1 Q.2.1 Q.2.2.1
      obtain ⟨x, y, hx, hy, E⟩ := R278c (a2 := a2) h1 h2 o6 h4 hb bB hh u06 v06 (Nat.le_trans (Nat.le_of_lt lt) S12)
      obtain ⟨M15, Z'⟩ := rj_step Z Q oC ne S12 NM h2 hs hx hy
      have h6 : rD hc (.inr (s1, 0)) 6 = n := by
        unfold rD
        rw [Z.1.2.2.2 s1 0 6 (fun t => ne t.1)]
        exact D.2.2.2.2.2.1
      rw [E, C64b ne h6 Z.2.2.1.2.1 M15 ha kn]
      have r := rj_copy D Hm oC lt S12 h1 h2 hs h4 NB j (b + 1) (k + 1) (M + 1) (a3 + 1) (a5 + 1) e' hb1 (i_suc ha kb) K' (Nat.le_succ_of_le BM) room' Z'
      rw [en] at r
      exact r
    · have E : g278_9 a1 a2 c2 a4 a5 hr = g278_9 a1 a2 c2 a4 (a5 + 1) hr := by
        by_cases bN : b < N
        · have e7 : hr.2.1 (.inl 117) b = hr0.2.1 (.inl 117) b := Z.2.1.2.2.2 117 b (fun t => absurd t.1 (by decide +kernel)) (fun t => absurd t.1 (by decide +kernel)) (fun t => absurd bN (Nat.not_lt.mpr t.2))
          rcases Hm b bN c with z | ⟨s, u, v, w1, w2, w3, w4, w5⟩
          · exact R278a h4 hb bB (e7.trans z)
          · exact R278b h1 h4 hb bB (show rD hr (.inl 117) b = _ by unfold rD; rw [e7]; exact w5) w3 w4 w1 w2
        · obtain ⟨bM, Nb⟩ := rjn_9 bN NB bB BM
          obtain ⟨-, u, v, Q⟩ := Z.2.2.1.2.2.2.1 (b - N) bM
          have q := Q.2.2.2.2.2.2.2.2.2.2.2.1
          rw [Nb] at q
          exact R278b h1 h4 hb bB q (Nat.lt_of_lt_of_le Q.1 C6) (Nat.lt_of_lt_of_le Q.2.1 C6) S12 (fun e => ne e.symm)
      rw [E]
      exact rj_copy D Hm oC lt S12 h1 h2 hs h4 NB j (b + 1) k M a3 (a5 + 1) e' hb1 ha (rjn_11 K c) BM room Z
end RV
/-! ===== corners of a shape copied into the draft ===== -/
section RX
variable {h g hc hr : mx_H} {S N n C M k s1 s o C1 c d : Nat} {a1 a2 a3 a4 : Int32}
theorem rP {o' i : Nat} {v : Int32} (ho : o ≠ o') : (mx_uI h (.inr (S, o')) i v).2.1 (.inr (s, o)) = h.2.1 (.inr (s, o)) := funext fun _ => rI_a (fun e => by
  cases e
  exact ho rfl)
def k_cc (h : mx_H) (S s1 d c : Nat) : mx_H := mx_uI (mx_uI (mx_uI (mx_uI (mx_uI h (.inr (S, 1)) d (h.2.1 (.inr (s1, 1)) c)) (.inr (S, 2)) d (h.2.1 (.inr (s1, 2)) c)) (.inr (S, 3)) d (h.2.1 (.inr (s1, 3)) c)) (.inr (S, 4)) d (h.2.1 (.inr (s1, 4)) c)) (.inr (S, 0)) 0 (h.2.1 (.inr (S, 0)) 0 + 1)
theorem C64c (hC : rD h (.inr (s1, 0)) 0 = C1) (hd : rD h (.inr (S, 0)) 0 = d) (d6 : d < 6) (ha : a3.toInt = (c : Int)) (hc1 : c < C1) : g64_7 S s1 a2 a3 h = g64_7 S s1 a2 (a3 + 1) (k_cc h S s1 d c) := by
  rw [g64_7_eq, if_neg (i_nle hC ha (by omega)), if_neg (i_nle k_6 hd (by omega))]
  simp only [rP (o := 0) (o' := 1) (by decide +kernel), rP (o := 0) (o' := 2) (by decide +kernel), rP (o := 0) (o' := 3) (by decide +kernel), rP (o := 0) (o' := 4) (by decide +kernel), rP (o := 2) (o' := 1) (by decide +kernel), rP (o := 3) (o' := 1) (by decide +kernel), rP (o := 3) (o' := 2) (by decide +kernel), rP (o := 4) (o' := 1) (by decide +kernel), rP (o := 4) (o' := 2) (by decide +kernel), rP (o := 4) (o' := 3) (by decide +kernel)]
  rw [i_cl hd, i_cl ha]
  rfl
/-- c corners of s1 stand from corner o on -/
def kc_F (h g : mx_H) (S s1 o c : Nat) : Prop := g.1 = h.1 ∧ g.2.2 = h.2.2 ∧ (∀ q i, g.2.1 (.inl q) i = h.2.1 (.inl q) i) ∧ (∀ s x i, ¬ (s = S ∧ x ≤ 4 ∧ (x = 0 → i = 0)) → g.2.1 (.inr (s, x)) i = h.2.1 (.inr (s, x)) i) ∧ rD g (.inr (S, 0)) 0 = ((o + c : Nat) : Int) ∧
  (∀ x i, 1 ≤ x → x ≤ 4 → i < o → g.2.1 (.inr (S, x)) i = h.2.1 (.inr (S, x)) i) ∧ ∀ x i, 1 ≤ x → x ≤ 4 → i < c → g.2.1 (.inr (S, x)) (o + i) = h.2.1 (.inr (s1, x)) i
theorem k_cc_r {x i : Nat} (h1 : 1 ≤ x) (h4 : x ≤ 4) : (k_cc h S s1 d c).2.1 (.inr (S, x)) i = if i = d then h.2.1 (.inr (s1, x)) c else h.2.1 (.inr (S, x)) i := by
  unfold k_cc
  rw [rP (by omega)]
  by_cases e : i = d
  · rw [if_pos e]
    rcases (show x = 1 ∨ x = 2 ∨ x = 3 ∨ x = 4 by omega) with t | t | t | t
    · subst t
      rw [rP (by decide +kernel), rP (by decide +kernel), rP (by decide +kernel), rI_c rfl e]
    · subst t
      rw [rP (by decide +kernel), rP (by decide +kernel), rI_c rfl e]
    · subst t
      rw [rP (by decide +kernel), rI_c rfl e]
    · subst t
      rw [rI_c rfl e]
  · rw [if_neg e, rI_i e, rI_i e, rI_i e, rI_i e]
theorem k_cc_o {x i : Nat} (q : ¬ (s = S ∧ x ≤ 4 ∧ (x = 0 → i = 0))) : (k_cc h S s1 d c).2.1 (.inr (s, x)) i = h.2.1 (.inr (s, x)) i := by
  have ne : ∀ o' : Nat, 1 ≤ o' → o' ≤ 4 → (Sum.inr (s, x) : mx_A) ≠ .inr (S, o') := fun o' w1 w2 e => by
    cases e
    exact q ⟨rfl, w2, fun t => by omega⟩
  unfold k_cc
  rw [show ∀ (H : mx_H) (v : Int32), (mx_uI H (.inr (S, 0)) 0 v).2.1 (.inr (s, x)) i = H.2.1 (.inr (s, x)) i from fun H v => if_neg (fun e => by
    have e1 := e.1
    have e2 := e.2
    cases e1
    exact q ⟨rfl, by decide +kernel, fun _ => e2⟩), rI_a (ne 4 (by decide +kernel) (by decide +kernel)), rI_a (ne 3 (by decide +kernel) (by decide +kernel)), rI_a (ne 2 (by decide +kernel) (by decide +kernel)), rI_a (ne 1 (by decide +kernel) (by decide +kernel))]
theorem C64l (ne : s1 ≠ S) (hC : rD h (.inr (s1, 0)) 0 = C1) (oC : o + C1 ≤ 6) : ∀ (j c : Nat) (a3 : Int32) {g : mx_H}, c + j = C1 → a3.toInt = (c : Int) → kc_F h g S s1 o c → ∃ g', g64_7 S s1 a2 a3 g = g64_102 S s1 a2 0 g' ∧ kc_F h g' S s1 o C1
  | 0, c, a3, g, e, ha, F => by
    have hg : rD g (.inr (s1, 0)) 0 = C1 := by
      unfold rD
      rw [F.2.2.2.1 s1 0 0 (fun t => ne t.1)]
      exact hC
    refine ⟨g, ?_, (show c = C1 by omega) ▸ F⟩
    rw [g64_7_eq, if_pos (i_le hg ha (by omega))]
  | j + 1, c, a3, g, e, ha, F => by
    obtain ⟨f1, f2, f3, f4, f5, f6, f7⟩ := F
    have hg : rD g (.inr (s1, 0)) 0 = C1 := by
      unfold rD
      rw [f4 s1 0 0 (fun t => ne t.1)]
      exact hC
    rw [C64c (d := o + c) hg f5 (by omega) ha (by omega)]
    refine C64l ne hC oC j (c + 1) (a3 + 1) (by omega) ((i_add ha k_1 (by omega) (by omega)).trans (by omega)) ⟨f1, f2, f3, fun s x i q => (k_cc_o q).trans (f4 s x i q), ?_, fun x i w1 w2 hi => ?_, fun x i w1 w2 hi => ?_⟩
    · unfold rD k_cc
      rw [rI_s]
      exact (i_add f5 k_1 (by omega) (by omega)).trans (by omega)
    · rw [k_cc_r w1 w2, if_neg (by omega)]
      exact f6 x i w1 w2 hi
    · rw [k_cc_r w1 w2]
      by_cases t : i = c
      · rw [if_pos (by omega), t]
        exact f4 s1 x c (fun q => ne q.1)
      · rw [if_neg (by omega)]
        exact f7 x i w1 w2 (by omega)
/-! the reference's corners -/
def r_cc (h : mx_H) (d c : Nat) : mx_H := mx_uI (mx_uI (mx_uI (mx_uI h (.inl 107) d (h.2.1 (.inl 107) c)) (.inl 108) d (h.2.1 (.inl 108) c)) (.inl 109) d (h.2.1 (.inl 109) c)) (.inl 110) d (vp_nar .boolean (h.2.1 (.inl 110) c))
theorem R279c (h1 : a1.toInt = (s1 : Int)) (h2 : a2.toInt = (S : Int)) (h3 : a3.toInt = (o : Int)) (h4 : a4.toInt = (c : Int)) (hC : rD h (.inl 106) s1 = C1) (hc1 : c < C1) (oC : o + C1 ≤ 6) (S12 : S ≤ 12) (s12 : s1 ≤ 12) : g279_3 a1 a2 a3 a4 h = g279_3 a1 a2 a3 (a4 + 1) (r_cc h (6 * S + o + c) (6 * s1 + c)) := by
  have e1 := w6 h2 h3 S12 (show o < 6 by omega)
  have e2 : (6 * a2 + a3 + a4).toInt = ((6 * S + o + c : Nat) : Int) := (i_add e1 h4 (by omega) (by omega)).trans (by omega)
  have e3 := w6 h1 h4 s12 (show c < 6 by omega)
  rw [g279_3_eq, i_cl h1, if_neg (i_nle hC h4 (by omega)), i_cl e2, i_cl e3]
  rfl
def rc_F (h g : mx_H) (S s1 o c : Nat) : Prop := g.1 = h.1 ∧ g.2.2 = h.2.2 ∧ (∀ q i, g.2.1 (.inr q) i = h.2.1 (.inr q) i) ∧ (∀ q i, ¬ (107 ≤ q ∧ q ≤ 110 ∧ 6 * S + o ≤ i ∧ i < 6 * S + 6) → g.2.1 (.inl q) i = h.2.1 (.inl q) i) ∧ ∀ q i, 107 ≤ q → q ≤ 110 → i < c → g.2.1 (.inl q) (6 * S + o + i) = h.2.1 (.inl q) (6 * s1 + i)
theorem nar01 {x : Int32} (hx : x = 0 ∨ x = 1) : vp_nar .boolean x = x := by
  rcases hx with e | e
  · rw [e]
    rfl
  · rw [e]
    rfl
theorem r_cc_r {q i : Nat} (h1 : 107 ≤ q) (h2 : q ≤ 110) (hb : h.2.1 (.inl 110) c = 0 ∨ h.2.1 (.inl 110) c = 1) : (r_cc h d c).2.1 (.inl q) i = if i = d then h.2.1 (.inl q) c else h.2.1 (.inl q) i := by
  unfold r_cc
  rw [nar01 hb]
  by_cases e : i = d
  · rw [if_pos e]
    rcases (show q = 107 ∨ q = 108 ∨ q = 109 ∨ q = 110 by omega) with t | t | t | t
    · subst t
      rw [rN (by decide +kernel), rN (by decide +kernel), rN (by decide +kernel), rI_c rfl e]
    · subst t
      rw [rN (by decide +kernel), rN (by decide +kernel), rI_c rfl e]
    · subst t
      rw [rN (by decide +kernel), rI_c rfl e]
    · subst t
      rw [rI_c rfl e]
  · rw [if_neg e, rI_i e, rI_i e, rI_i e, rI_i e]
theorem r_cc_o {q i : Nat} (t : ¬ (107 ≤ q ∧ q ≤ 110)) : (r_cc h d c).2.1 (.inl q) i = h.2.1 (.inl q) i := by
  unfold r_cc
  rw [rN (by omega), rN (by omega), rN (by omega), rN (by omega)]
theorem R279l (lt : s1 < S) (S12 : S ≤ 12) (h1 : a1.toInt = (s1 : Int)) (h2 : a2.toInt = (S : Int)) (h3 : a3.toInt = (o : Int)) (hC : rD h (.inl 106) s1 = C1) (oC : o + C1 ≤ 6) (hb : ∀ i, i < C1 → h.2.1 (.inl 110) (6 * s1 + i) = 0 ∨ h.2.1 (.inl 110) (6 * s1 + i) = 1) : ∀ (j c : Nat) (a4 : Int32) {g : mx_H}, c + j = C1 → a4.toInt = (c : Int) → rc_F h g S s1 o c → rc_F h (g279_3 a1 a2 a3 a4 g) S s1 o C1
  | 0, c, a4, g, e, ha, F => by
    have hg : rD g (.inl 106) s1 = C1 := by
      unfold rD
      rw [F.2.2.2.1 106 s1 (by omega)]
      exact hC
    rw [g279_3_eq, i_cl h1, if_pos (i_le hg ha (by omega))]
    exact (show c = C1 by omega) ▸ F
  | j + 1, c, a4, g, e, ha, F => by
    obtain ⟨f1, f2, f3, f4, f5⟩ := F
    have hg : rD g (.inl 106) s1 = C1 := by
      unfold rD
      rw [f4 106 s1 (by omega)]
      exact hC
    have bb : g.2.1 (.inl 110) (6 * s1 + c) = 0 ∨ g.2.1 (.inl 110) (6 * s1 + c) = 1 := by
      rw [f4 110 (6 * s1 + c) (by omega)]
      exact hb c (by omega)
    rw [R279c h1 h2 h3 ha hg (by omega) oC S12 (by omega)]
    refine R279l lt S12 h1 h2 h3 hC oC hb j (c + 1) (a4 + 1) (by omega) ((i_add ha k_1 (by omega) (by omega)).trans (by omega)) ⟨f1, f2, f3, fun q i t => ?_, fun q i w1 w2 hi => ?_⟩
    · by_cases w : 107 ≤ q ∧ q ≤ 110
      · rw [r_cc_r w.1 w.2 bb, if_neg (by omega)]
        exact f4 q i t
      · rw [r_cc_o w]
        exact f4 q i t
    · rw [r_cc_r w1 w2 bb]
      by_cases t : i = c
      · rw [if_pos (by omega), t]
        exact f4 q (6 * s1 + c) (by omega)
      · rw [if_neg (by omega)]
        exact f5 q i w1 w2 (by omega)
end RX
/-! ===== a shape more, however it was drafted ===== -/
section RY
variable {hc hr hx gc gM : mx_H} {S N n C : Nat}
theorem rs_grow (A : rs_A hc hr S N) (S11 : S ≤ 11) (nn : N + n ≤ 200) (C1 : 1 ≤ C) (a : rz_FW S hc hx) (x5 : rD hx (.inr (S, 0)) 5 = N) (B : k_B hx gc N (N + n) S) (hM : rD gM (.inl 105) 1 = ((S + 1 : Nat) : Int)) (J : rj_J hx gM S C N n) (er : ∀ s, s < S → rs_er s hr gM) (l7 : ∀ i, i < N → gM.2.1 (.inl 116) i = hr.2.1 (.inl 116) i ∧ gM.2.1 (.inl 117) i = hr.2.1 (.inl 117) i)
    (c0 : rD hx (.inr (S, 0)) 0 = C) (r6 : rD gM (.inl 106) S = C) (cc : ∀ c, c < C → hx.2.1 (.inr (S, 1)) c = gM.2.1 (.inl 107) (6 * S + c) ∧ hx.2.1 (.inr (S, 2)) c = gM.2.1 (.inl 108) (6 * S + c) ∧ hx.2.1 (.inr (S, 3)) c = gM.2.1 (.inl 109) (6 * S + c) ∧ hx.2.1 (.inr (S, 4)) c = gM.2.1 (.inl 110) (6 * S + c))
    (par : hx.2.1 (.inr (S, 0)) 11 = gM.2.1 (.inl 114) S ∧ (¬ gM.2.1 (.inl 114) S = -1 → hx.2.1 (.inr (S, 0)) 12 = gM.2.1 (.inl 115) S)) : rs_A (k_N gc S) gM (S + 1) (N + n) := by
  obtain ⟨a1, a2, a3, a4, a5, a6, a7, a8, a9, a10⟩ := A
  obtain ⟨C6, j1, j2, j3, j4, j5⟩ := J
  obtain ⟨b1, b2, b3, b4, b5, b6, b7⟩ := B
  have xr : hx.2.2.2 = hc.2.2.2 := congrArg Prod.snd a.2.1
  have ni : ∀ s o i, s ≤ S → (k_N gc S).2.1 (.inr (s, o)) i = hx.2.1 (.inr (s, o)) i := fun s o i q => by
    show (sn_f (k_G gc S) (S + 1)).2.1 (.inr (s, o)) i = _
    rw [sn_io i (by omega)]
    exact b2 (s, o) i
  have nl : ∀ q i, ¬ (q = 0 ∧ i = 2) → (k_N gc S).2.1 (.inl q) i = gc.2.1 (.inl q) i := fun q i e => by
    show (k_G gc S).2.1 (.inl q) i = _
    exact if_neg (fun z => e ⟨Sum.inl.inj z.1, z.2⟩)
  have nr : ∀ q i, ¬ (q = 0 ∧ i = 3) → ¬ (q = 3 ∧ i = S) → (k_N gc S).2.2.2 (.inl q) i = gc.2.2.2 (.inl q) i := fun q i e1 e2 => by
    refine (if_neg (fun z => e1 ⟨Sum.inl.inj z.1, z.2⟩)).trans ?_
    exact if_neg (fun z => e2 ⟨Sum.inl.inj z.1, z.2⟩)
  have kx : ∀ q u v, rs_k hx gM S C N q u v → rs_k (k_N gc S) gM S C N q u v := fun q u v Q => by
    obtain ⟨o1, o2, o3, o4, o5, o6, o7, o8, o9, o10, o11, o12⟩ := Q
    unfold rs_k rD
    rw [ni S 5 q (Nat.le_refl _), ni S 6 q (Nat.le_refl _), ni S 7 q (Nat.le_refl _), ni S 8 q (Nat.le_refl _)]
    exact ⟨o1, o2, o3, o4, o5, o6, o7, o8, o9, o10, o11, o12⟩
  refine ⟨by omega, nn, ?_, hM, ?_, j2, ?_, ?_, fun s hs => ⟨?_, ?_⟩, fun i hi => ?_⟩
  · show (gc.2.1 (.inl 0) 2 + 1).toInt = _
    rw [b3 0 2 (by decide +kernel) (by decide +kernel), a.2.2.1 0 2 (by omega), i_add a3 k_1 (by omega) (by omega)]
    omega
  · unfold rD
    rw [nl 90 0 (by omega)]
    exact b4
  · show gc.1 + 9 = _
    rw [b1, a.1, a7]
    omega
  · exact (rR _ _ _ _ _ _).trans (if_pos ⟨rfl, rfl⟩)
  · by_cases e : s = S
    · subst e
      refine (rR _ _ _ _ _ _).trans ?_
      rw [if_neg (fun z => absurd (Sum.inl.inj z.1) (by decide +kernel))]
      show (mx_uR gc (.inl 3) s (some (.inr (s, 0)))).2.2.2 (.inl 3) s = _
      exact (rR _ _ _ _ _ _).trans (if_pos ⟨rfl, rfl⟩)
    · rw [nr 3 s (by omega) (by omega), b5 3 s (by decide +kernel), xr]
      exact (a9 s (by omega)).1
  · by_cases e : s = S
    · subst e
      refine ⟨C, n, N, C1, C6, Nat.le_refl _, ?_, r6, ?_, ?_, fun c q => ?_, ?_, fun q hq => ?_, fun u v hu hv => ?_, j5, fun q hq => ?_⟩
      · unfold rD
        rw [ni s 0 0 (Nat.le_refl _)]
        exact c0
      · unfold rD
        rw [ni s 0 6 (Nat.le_refl _)]
        exact j1
      · unfold rD
        rw [ni s 0 5 (Nat.le_refl _)]
        exact x5
      · rw [ni s 1 c (Nat.le_refl _), ni s 2 c (Nat.le_refl _), ni s 3 c (Nat.le_refl _), ni s 4 c (Nat.le_refl _)]
        exact cc c q
      · rw [ni s 0 11 (Nat.le_refl _), ni s 0 12 (Nat.le_refl _)]
        exact par
      · obtain ⟨-, u, v, Q⟩ := j3 q hq
        exact ⟨u, v, kx q u v Q⟩
      · rcases j4 u v hu hv with z | ⟨q, q1, q2⟩
        · exact Or.inl z
        · refine Or.inr ⟨q, q1, ?_⟩
          rcases q2 with q2 | q2
          · exact Or.inl (kx _ _ _ q2)
          · exact Or.inr (kx _ _ _ q2)
      · rw [nr 92 _ (by omega) (by omega)]
        exact (b7 (N + q) (by omega) (by omega)).2
    · have hs' : s < S := by omega
      obtain ⟨C', n', F', D⟩ := (a9 s hs').2
      refine ⟨C', n', F', D.x (by omega) (fun o i ho => ?_) (er s hs') (fun i hi => ⟨(l7 i hi).2, ?_⟩)⟩
      · rw [ni s o i (by omega)]
        exact a.2.2.2 s o i (by omega)
      · rw [nr 92 i (by omega) (by omega), (b6 i hi).2, xr]
  · rw [nl 91 i (by omega), nr 92 i (by omega) (by omega)]
    by_cases c : i < N
    · rw [(b6 i c).1, (b6 i c).2, (l7 i c).1, (l7 i c).2, xr, a.2.2.1 91 i (by omega)]
      obtain ⟨q1, q2⟩ := a10 i c
      refine ⟨q1, ?_⟩
      rcases q2 with q | ⟨s, k, q1, q2, q3⟩
      · exact Or.inl q
      · refine Or.inr ⟨s, k, by omega, ?_, ?_⟩
        · unfold rD
          rw [ni s 0 6 (by omega), a.2.2.2 s 0 6 (by omega)]
          exact q2
        · unfold rD
          rw [ni s 0 5 (by omega), a.2.2.2 s 0 5 (by omega)]
          exact q3
    · refine ⟨?_, Or.inr ⟨S, i - N, by omega, ?_, ?_⟩⟩
      · rw [(b7 i (by omega) hi).1]
        have := (j3 (i - N) (by omega)).1
        rw [show N + (i - N) = i by omega] at this
        exact this.symm
      · unfold rD
        rw [ni S 0 6 (Nat.le_refl _)]
        have : rD hx (.inr (S, 0)) 6 = n := j1
        unfold rD at this
        omega
      · unfold rD
        rw [ni S 0 5 (Nat.le_refl _)]
        have : rD hx (.inr (S, 0)) 5 = N := x5
        unfold rD at this
        omega
end RY
/-! ===== questions that both sides answer alike ===== -/
section RAA
variable {h hc hr : mx_H} {S N s i j : Nat} {a x a1 a2 a3 a4 : Int32}
theorem C166 (A : rs_A hc hr S N) : (∃ s : Nat, s < S ∧ a.toInt = (s : Int) ∧ f166 a hc = some s ∧ f177 a hr = 1) ∨ (f166 a hc = none ∧ f177 a hr = 0) := by
  obtain ⟨b1, b2, b3, b4, b5, b6, b7, b8, b9, b10⟩ := A
  have e1 := i_sub b3 k_1 (by omega) (by omega)
  have e2 := i_sub b4 k_1 (by omega) (by omega)
  rw [f166_eq, f177_eq]
  by_cases q : 0 ≤ a.toInt ∧ a.toInt ≤ (S : Int) - 1
  · have ha : a.toInt = ((a.toInt.toNat : Nat) : Int) := by omega
    refine Or.inl ⟨a.toInt.toNat, by omega, ha, ?_, w173_1 rfl k_0 e2 q⟩
    rw [w157_1 rfl k_0 e1 q, if_neg n10, i_cl ha, (b9 a.toInt.toNat (by omega)).1]
    rfl
  · refine Or.inr ⟨?_, w173_0 rfl k_0 e2 q⟩
    rw [w157_0 rfl k_0 e1 q, if_pos rfl]
theorem C164 {C : Nat} (hs : a.toInt = (s : Int)) (h1 : rD hc (.inr (s, 0)) 0 = C) (h2 : rD hr (.inl 106) s = C) (C6 : C ≤ 6) : (∃ c : Nat, c < C ∧ x.toInt = (c : Int) ∧ f164 s x hc = 1 ∧ f178 a x hr = 1) ∨ (f164 s x hc = 0 ∧ f178 a x hr = 0) := by
  have e1 := i_sub h1 k_1 (by omega) (by omega)
  have e2 := i_sub h2 k_1 (by omega) (by omega)
  rw [f164_eq, f178_eq, i_cl hs]
  by_cases q : 0 ≤ x.toInt ∧ x.toInt ≤ (C : Int) - 1
  · refine Or.inl ⟨x.toInt.toNat, by omega, by omega, ?_, w173_1 rfl k_0 e2 q⟩
    rw [w157_1 rfl k_0 e1 q, if_neg n10]
  · refine Or.inr ⟨?_, w173_0 rfl k_0 e2 q⟩
    rw [w157_0 rfl k_0 e1 q, if_pos rfl]
/-- the reference counts its pieces -/
def k_bit (h : mx_H) (s i j : Nat) : Nat := if rz_g h s (6 * i + j) = true then 1 else 0
theorem R183s {m : Nat} (h1 : a1.toInt = (s : Int)) (h2 : a2.toInt = (m : Int)) (h3 : a3.toInt = (i : Int)) (h4 : a4.toInt = (j : Int)) (hs : s ≤ 12) (hi : i < 6) (hj : j < 6) (hm : m ≤ 100) (nn : ∀ p, 0 ≤ rD h (.inl 113) p) :
    ∃ b : Int32, b.toInt = ((m + k_bit h s i j : Nat) : Int) ∧ g183_15 a1 a2 a3 a4 h = g183_15 a1 b a3 (a4 + 1) h := by
  have w := w179 h1 h3 h4 hs hi hj
  rw [g183_15_eq, if_neg (i_nle k_6 h4 (by omega)), f180_eq, i_cl w]
  have n := nn (36 * s + 6 * i + j)
  unfold k_bit rz_g
  rw [show 36 * s + (6 * i + j) = 36 * s + 6 * i + j by omega]
  by_cases z : h.2.1 (.inl 113) (36 * s + 6 * i + j) = 0
  · refine ⟨a2 + 0, ?_, ?_⟩
    · rw [if_neg (by rw [decide_eq_true_iff]; exact fun t => t z), i_add h2 k_0 (by omega) (by omega)]
      omega
    · rw [z, if_pos (show (0 : Int32) ≤ 0 by decide +kernel), if_pos rfl]
  · refine ⟨a2 + 1, ?_, ?_⟩
    · rw [if_pos (by rw [decide_eq_true_iff]; exact z), i_add h2 k_1 (by omega) (by omega)]
      omega
    · have p : ¬ h.2.1 (.inl 113) (36 * s + 6 * i + j) ≤ 0 := fun t => by
        have := Int32.le_iff_toInt_le.mp t
        rw [k_0] at this
        unfold rD at n
        exact z (i_eq (show (h.2.1 (.inl 113) (36 * s + 6 * i + j)).toInt = 0 by omega) k_0 rfl)
      rw [if_neg p, if_neg n10]
def k_row (h : mx_H) (s i : Nat) : Nat → Nat → Nat
  | 0, _ => 0
  | n + 1, j => k_bit h s i j + k_row h s i n (j + 1)
theorem k_bit_1 {h : mx_H} {s i j : Nat} : k_bit h s i j ≤ 1 := by
  unfold k_bit
  split <;> omega
theorem R183r (h1 : a1.toInt = (s : Int)) (h3 : a3.toInt = (i : Int)) (hs : s ≤ 12) (hi : i < 6) (nn : ∀ p, 0 ≤ rD h (.inl 113) p) : ∀ (n j m : Nat) (a2 a4 : Int32), j + n = 6 → m + n ≤ 100 → a2.toInt = (m : Int) → a4.toInt = (j : Int) → ∃ b : Int32, b.toInt = ((m + k_row h s i n j : Nat) : Int) ∧ m + k_row h s i n j ≤ m + n ∧ g183_15 a1 a2 a3 a4 h = g183_4 a1 b (a3 + 1) h
  | 0, j, m, a2, a4, e, hm, h2, h4 => ⟨a2, h2, Nat.le_refl _, by rw [g183_15_eq, if_pos (i_le k_6 h4 (by omega))]⟩
  | n + 1, j, m, a2, a4, e, hm, h2, h4 => by
    obtain ⟨b, b1, b2⟩ := R183s (a2 := a2) h1 h2 h3 h4 hs hi (by omega) (by omega) nn
    have l := k_bit_1 (h := h) (s := s) (i := i) (j := j)
    obtain ⟨d, d1, d2, d3⟩ := R183r h1 h3 hs hi nn n (j + 1) (m + k_bit h s i j) b (a4 + 1) (by omega) (by omega) b1 ((i_add h4 k_1 (by omega) (by omega)).trans (by omega))
    refine ⟨d, ?_, ?_, b2.trans d3⟩
    · rw [d1, show k_row h s i (n + 1) j = k_bit h s i j + k_row h s i n (j + 1) from rfl]
      omega
    · rw [show k_row h s i (n + 1) j = k_bit h s i j + k_row h s i n (j + 1) from rfl]
      omega
end RAA
/-! ===== join(): two shapes copied into the draft, on both sides ===== -/
section RBB
variable {h h' h'' g hc hr c2 c4 r0 r1 r2 r3 r4 r5 : mx_H} {S N s s1 s2 i j n o c C C1 C2 n1 n2 F1 F2 : Nat} {a a1 a2 a3 a4 sS : Int32}
def k_t (h : mx_H) (s c : Nat) : Nat := if rz_g h s c = true then 1 else 0
theorem k_tc {l : List Nat} : sd_C (c :: l) (rz_g h s) = sd_C l (rz_g h s) + k_t h s c := sd_C_cons
theorem R183 (h1 : a1.toInt = (s : Int)) (hs : s ≤ 12) (nn : ∀ p, 0 ≤ rD h (.inl 113) p) : (f183 a1 h).toInt = ((sd_C sd_CL (rz_g h s) : Nat) : Int) := by
  rw [f183_eq]
  have st : ∀ (i m : Nat) (a2 a3 : Int32), i < 6 → m ≤ 50 → a2.toInt = (m : Int) → a3.toInt = (i : Int) → ∃ b : Int32, b.toInt = ((m + k_row h s i (5 - i) (i + 1) : Nat) : Int) ∧ m + k_row h s i (5 - i) (i + 1) ≤ m + 5 ∧ g183_4 a1 a2 a3 h = g183_4 a1 b (a3 + 1) h := fun i m a2 a3 hi hm h2 h3 => by
    have e : g183_4 a1 a2 a3 h = g183_15 a1 a2 a3 (a3 + 1) h := by rw [g183_4_eq, if_neg (i_nle k_6 h3 (by omega))]
    obtain ⟨b, b1, b2, b3⟩ := R183r h1 h3 hs hi nn (5 - i) (i + 1) m a2 (a3 + 1) (by omega) (by omega) h2 ((i_add h3 k_1 (by omega) (by omega)).trans (by omega))
    exact ⟨b, b1, by omega, e.trans b3⟩
  obtain ⟨b0, e0, l0, g0⟩ := st 0 0 0 0 (by omega) (by omega) rfl rfl
  obtain ⟨b1, e1, l1, g1⟩ := st 1 _ b0 (0 + 1) (by omega) (by omega) e0 rfl
  obtain ⟨b2, e2, l2, g2⟩ := st 2 _ b1 (0 + 1 + 1) (by omega) (by omega) e1 rfl
  obtain ⟨b3, e3, l3, g3⟩ := st 3 _ b2 (0 + 1 + 1 + 1) (by omega) (by omega) e2 rfl
  obtain ⟨b4, e4, l4, g4⟩ := st 4 _ b3 (0 + 1 + 1 + 1 + 1) (by omega) (by omega) e3 rfl
  obtain ⟨b5, e5, l5, g5⟩ := st 5 _ b4 (0 + 1 + 1 + 1 + 1 + 1) (by omega) (by omega) e4 rfl
  have t0 : k_row h s 0 (5 - 0) (0 + 1) = k_t h s 1 + (k_t h s 2 + (k_t h s 3 + (k_t h s 4 + (k_t h s 5 + 0)))) := rfl
  have t1 : k_row h s 1 (5 - 1) (1 + 1) = k_t h s 8 + (k_t h s 9 + (k_t h s 10 + (k_t h s 11 + 0))) := rfl
  have t2 : k_row h s 2 (5 - 2) (2 + 1) = k_t h s 15 + (k_t h s 16 + (k_t h s 17 + 0)) := rfl
  have t3 : k_row h s 3 (5 - 3) (3 + 1) = k_t h s 22 + (k_t h s 23 + 0) := rfl
  have t4 : k_row h s 4 (5 - 4) (4 + 1) = k_t h s 29 + 0 := rfl
  have t5 : k_row h s 5 (5 - 5) (5 + 1) = 0 := rfl
  have key : sd_C sd_CL (rz_g h s) = 0 + k_t h s 29 + k_t h s 23 + k_t h s 22 + k_t h s 17 + k_t h s 16 + k_t h s 15 + k_t h s 11 + k_t h s 10 + k_t h s 9 + k_t h s 8 + k_t h s 5 + k_t h s 4 + k_t h s 3 + k_t h s 2 + k_t h s 1 := by
    unfold sd_CL
    rw [k_tc, k_tc, k_tc, k_tc, k_tc, k_tc, k_tc, k_tc, k_tc, k_tc, k_tc, k_tc, k_tc, k_tc, k_tc]
    rfl
  rw [g0, g1, g2, g3, g4, g5, g183_4_eq, if_pos (show (6 : Int32) ≤ 0 + 1 + 1 + 1 + 1 + 1 + 1 by decide +kernel), e5]
  omega
theorem kc_F.W (F : kc_F h g S s1 o c) : rz_FW S h g := ⟨F.1, F.2.1, fun k i _ => F.2.2.1 k i, fun s x i q => F.2.2.2.1 s x i (fun t => q ⟨t.1, by omega⟩)⟩
theorem rj_c.W (F : rj_c S h g) : rz_FW S h g := ⟨F.1, F.2.1, fun k i _ => F.2.2.1 k i, fun s x i q => F.2.2.2 s x i (fun t => q ⟨t.1, by omega⟩)⟩
/-- the reference: no more than the new shape's places and bodies -/
def rw_r (N S : Nat) (h g : mx_H) : Prop := g.1 = h.1 ∧ g.2.2 = h.2.2 ∧ (∀ q i, g.2.1 (.inr q) i = h.2.1 (.inr q) i) ∧ ∀ k i, ¬ rz_w S k i → ¬ (k = 105 ∧ i = 12) → ¬ ((k = 116 ∨ k = 117) ∧ N ≤ i) → g.2.1 (.inl k) i = h.2.1 (.inl k) i
theorem rw_r.trans (a : rw_r N S h h') (b : rw_r N S h' h'') : rw_r N S h h'' := ⟨b.1.trans a.1, b.2.1.trans a.2.1, fun k i => (b.2.2.1 k i).trans (a.2.2.1 k i), fun k i p q r => (b.2.2.2 k i p q r).trans (a.2.2.2 k i p q r)⟩
theorem rz_FR.W (a : rz_FR S h g) : rw_r N S h g := ⟨a.1, a.2.1, a.2.2.1, fun k i q _ _ => a.2.2.2 k i q⟩
theorem rc_F.W (a : rc_F h g S s1 o c) : rw_r N S h g := ⟨a.1, a.2.1, a.2.2.1, fun k i q _ _ => a.2.2.2.1 k i (fun t => q (by unfold rz_w; omega))⟩
theorem rj_r.W (a : rj_r N S h g) : rw_r N S h g := ⟨a.1, a.2.1, a.2.2.1, fun k i q p r => a.2.2.2 k i (fun t => q (by unfold rz_w; omega)) p r⟩
theorem rw_r.e (a : rw_r N S h g) (hs : s < S) : rs_er s h g := fun k i w => by
  unfold rs_w at w
  exact a.2.2.2 k i (by unfold rz_w; omega) (by omega) (by omega)
theorem rw_r.l (a : rw_r N S h g) (hi : i < N) : g.2.1 (.inl 116) i = h.2.1 (.inl 116) i ∧ g.2.1 (.inl 117) i = h.2.1 (.inl 117) i := ⟨a.2.2.2 116 i (by unfold rz_w; omega) (by omega) (by omega), a.2.2.2 117 i (by unfold rz_w; omega) (by omega) (by omega)⟩
theorem rw_r.co (a : rw_r N S h g) (hs : s < S) : g.2.1 (.inl 106) s = h.2.1 (.inl 106) s := a.2.2.2 106 s (by unfold rz_w; omega) (by omega) (by omega)
/-- bodies of other shapes -/
theorem rs_Hm (A : rs_A hc hr S N) (D : rs_D hc hr N s1 C1 n1 F1) (l : ∀ i, i < N → g.2.1 (.inl 117) i = hr.2.1 (.inl 117) i) : ∀ b, b < N → ¬ (F1 ≤ b ∧ b < F1 + n1) → g.2.1 (.inl 117) b = 0 ∨ ∃ s u v : Nat, s ≤ 12 ∧ s ≠ s1 ∧ u < 6 ∧ v < 6 ∧ rD g (.inl 117) b = ((36 * s + 6 * u + v + 1 : Nat) : Int) := fun b hb nb => by
  obtain ⟨A1, A2, A3, A4, A5, A6, A7, A8, A9, A10⟩ := A
  unfold rD
  rw [l b hb]
  rcases (A10 b hb).2 with q | ⟨s, k, q1, q2, q3⟩
  · exact Or.inl q.1
  · obtain ⟨C, m, F, E⟩ := (A9 s q1).2
    have m6 := E.2.2.2.2.2.1
    have f5 := E.2.2.2.2.2.2.1
    have ne : s ≠ s1 := fun e => by
      subst e
      have m6' := D.2.2.2.2.2.1
      have f5' := D.2.2.2.2.2.2.1
      omega
    obtain ⟨u, v, Q⟩ := E.2.2.2.2.2.2.2.2.2.1 k (by omega)
    have u1 := Q.1
    have v1 := Q.2.1
    have C6 := E.2.1
    have q12 := Q.2.2.2.2.2.2.2.2.2.2.2.1
    rw [show F + k = b by omega] at q12
    exact Or.inr ⟨s, u, v, by omega, ne, by omega, by omega, q12⟩
/-! numbers, apart from the heaps -/
theorem rjb_n (l1 : s1 < S) (l2 : s2 < S) (S11 : S ≤ 11) (nn : N + (n1 + n2 + 1) ≤ 200) (CC : C1 + C2 ≤ 6) : s1 ≠ S ∧ s2 ≠ S ∧ S ≤ 12 ∧ C1 + C2 ≤ 2147483647 ∧ 0 + C1 ≤ C1 + C2 ∧ C1 ≤ 6 ∧ C2 ≤ 6 := ⟨by omega, by omega, by omega, by omega, by omega, by omega, by omega⟩
theorem rjb_r (nn : N + (n1 + n2 + 1) ≤ 200) : N + 0 + (n1 - 0) ≤ 200 ∧ N + n1 + (n2 - 0) ≤ 200 ∧ n1 + (n2 - 0) = n1 + n2 ∧ 0 + (n1 - 0) = n1 := ⟨by omega, by omega, by omega, by omega⟩
theorem rjb_36 {u v : Nat} (hu : u < 6) (hv : v < 6) : 6 * u + v < 36 := by omega
theorem rjb_c0 : ¬ (S = S ∧ ((0 = 0 ∧ 0 = 6) ∨ (5 ≤ 0 ∧ 0 < 9))) := by omega
theorem rjb_cx {x : Nat} (l1 : 1 ≤ x) (l2 : x ≤ 4) (P : Prop) : ¬ (P ∧ ((x = 0 ∧ i = 6) ∨ (5 ≤ x ∧ x < 9))) := fun t => by omega
theorem rjb_kx {x : Nat} (h : 5 ≤ x) (P Q : Prop) : ¬ (P ∧ x ≤ 4 ∧ Q) := fun t => absurd t.2.1 (by omega)
theorem rjb_k0 (P : Prop) : ¬ (P ∧ 0 ≤ 4 ∧ (0 = 0 → 6 = 0)) := fun t => absurd (t.2.2 rfl) (by decide +kernel)
theorem rjb_x4 {x : Nat} (l1 : 1 ≤ x) (l2 : x ≤ 4) : x = 1 ∨ x = 2 ∨ x = 3 ∨ x = 4 := by omega
theorem rjb_w {x : Nat} (l1 : 1 ≤ x) (l2 : x ≤ 4) (hi : i < 6) : rs_w s (106 + x) (6 * s + i) := by
  unfold rs_w
  omega
theorem rjb_q {q : Nat} (l1 : 106 ≤ q) (l2 : q ≤ 110) (P : Prop) : ¬ ((q = 111 ∨ q = 112 ∨ q = 113) ∧ P) ∧ (¬ (q = 105 ∧ i = 12)) ∧ ¬ ((q = 116 ∨ q = 117) ∧ P) := ⟨fun t => by omega, fun t => by omega, fun t => by omega⟩
theorem rjb_s {x c : Nat} (hc1 : c < C1) : ¬ (107 ≤ 106 + x ∧ 106 + x ≤ 110 ∧ 6 * S + C1 ≤ 6 * S + c ∧ 6 * S + c < 6 * S + 6) := by omega
theorem rjb_e {c : Nat} (h : ¬ c < C1) (hc : c < C1 + C2) (CC : C1 + C2 ≤ 6) : c - C1 < C2 ∧ C1 + (c - C1) = c ∧ 6 * S + C1 + (c - C1) = 6 * S + c ∧ c - C1 < 6 := ⟨by omega, by omega, by omega, by omega⟩
theorem rjb_o {u v u0 v0 : Nat} (p1 : u0 < C1) (p2 : v0 < C1) (w : (u = 0 + u0 ∧ v = 0 + v0) ∨ (u = 0 + v0 ∧ v = 0 + u0)) : u < C1 ∧ v < C1 := ⟨by omega, by omega⟩
theorem rjb_p {u v u0 v0 : Nat} (w : (u = C1 + u0 ∧ v = C1 + v0) ∨ (u = C1 + v0 ∧ v = C1 + u0)) : C1 ≤ u ∧ C1 ≤ v := ⟨by omega, by omega⟩
/-- both shapes stand in the draft -/
theorem rj_both (A : rs_A hc hr S N) (lt1 : s1 < S) (lt2 : s2 < S) (D1 : rs_D hc hr N s1 C1 n1 F1) (D2 : rs_D hc hr N s2 C2 n2 F2) (S11 : S ≤ 11) (nn : N + (n1 + n2 + 1) ≤ 200) (CC : C1 + C2 ≤ 6) (h1 : a1.toInt = (s1 : Int)) (h2 : a2.toInt = (s2 : Int)) (hS : sS.toInt = (S : Int)) (hb : ∀ i, hr.2.1 (.inl 110) i = 0 ∨ hr.2.1 (.inl 110) i = 1)
    (e2 : c2 = f64 S s1 (f59 S hc)) (e4 : c4 = f64 S s2 c2) (q0 : r0 = f182 sS hr) (q1 : r1 = mx_uI r0 (.inl 106) S (r0.2.1 (.inl 106) s1 + r0.2.1 (.inl 106) s2)) (q2 : r2 = f279 a1 sS 0 r1) (q3 : r3 = f279 a2 sS (r2.2.1 (.inl 106) s1) r2) (q4 : r4 = f278 a1 sS 0 r3) (q5 : r5 = f278 a2 sS (r4.2.1 (.inl 106) s1) r4) :
    rz_FW S hc c2 ∧ rz_FW S hc c4 ∧ rw_r N S hr r2 ∧ rw_r N S hr r4 ∧ rw_r N S hr r5 ∧ rj_J c4 r5 S (C1 + C2) N (n1 + n2) ∧ (∀ u v, u < 6 → v < 6 → ¬ r5.2.1 (.inl 113) (36 * S + 6 * u + v) = 0 → (u < C1 ∧ v < C1) ∨ (C1 ≤ u ∧ C1 ≤ v)) ∧ rD c4 (.inr (S, 0)) 0 = ((C1 + C2 : Nat) : Int) ∧ rD r5 (.inl 106) S = ((C1 + C2 : Nat) : Int) ∧
    (∀ x c, 1 ≤ x → x ≤ 4 → c < C1 + C2 → c4.2.1 (.inr (S, x)) c = r5.2.1 (.inl (106 + x)) (6 * S + c)) := by
  obtain ⟨A1, A2, A3, A4, A5, A6, A7, A8, A9, A10⟩ := id A
  obtain ⟨n1S, n2S, S12, CCm, zC, C16, C26⟩ := rjb_n lt1 lt2 S11 nn CC
  obtain ⟨room1, room2, en2, en1⟩ := rjb_r nn
  have k1c := D1.2.2.2.1
  have k2c := D2.2.2.2.1
  have k1r := D1.2.2.2.2.1
  have k2r := D2.2.2.2.2.1
  obtain ⟨F0, z0, z6, z11, z12, -⟩ := C59s S hc
  -- the class: corners of the first
  have dS1 : rD (f59 S hc) (.inr (s1, 0)) 0 = C1 := by
    unfold rD
    rw [F0.2.2.2 s1 0 0 (fun t => n1S t.1)]
    exact k1c
  obtain ⟨c1, ec1, K1⟩ := C64l (a2 := 0) (o := 0) n1S dS1 (Nat.le_trans (Nat.le_of_eq (Nat.zero_add _)) C16) C1 0 0 (g := f59 S hc) (Nat.zero_add _) rfl ⟨rfl, rfl, fun _ _ => rfl, fun _ _ _ _ => rfl, by unfold rD; rw [z0]; rfl, fun _ _ _ _ t => absurd t (Nat.not_lt_zero _), fun _ _ _ _ t => absurd t (Nat.not_lt_zero _)⟩
  have W1 : rz_FW S hc c1 := F0.trans K1.W
  have E2 : c2 = g64_102 S s1 0 0 c1 := by rw [e2, f64_eq, z0, ec1]
  -- the reference: cleared, corners of both
  obtain ⟨G0, g5, g6, gz, g36⟩ := R182 (h := hr) hS S12
  rw [← q0] at G0 g5 g6 gz g36
  have w0 : rw_r N S hr r0 := G0.W
  have r0a : rD r0 (.inl 106) s1 = C1 := by
    unfold rD
    rw [w0.co lt1]
    exact k1r
  have r0b : rD r0 (.inl 106) s2 = C2 := by
    unfold rD
    rw [w0.co lt2]
    exact k2r
  have sum := i_addn r0a r0b CCm
  have w1 : rw_r N S r0 r1 := by
    rw [q1]
    exact (rz_FR.refl.u (Or.inr (Or.inl ⟨rfl, rfl⟩))).W
  have w01 := w0.trans w1
  have r1S : rD r1 (.inl 106) S = ((C1 + C2 : Nat) : Int) := by
    unfold rD
    rw [q1, rI_s, sum]
  have r1a : rD r1 (.inl 106) s1 = C1 := by
    unfold rD
    rw [w01.co lt1]
    exact k1r
  have hb1 : ∀ s i, s < S → i < 6 → r1.2.1 (.inl 110) (6 * s + i) = 0 ∨ r1.2.1 (.inl 110) (6 * s + i) = 1 := fun s i hs hi => by
    rw [w01.e hs 110 (6 * s + i) (rjb_w (x := 4) (by decide +kernel) (by decide +kernel) hi)]
    exact hb _
  have R1 : rc_F r1 r2 S s1 0 C1 := by
    rw [q2, f279_eq]
    exact R279l (o := 0) lt1 S12 h1 hS k_0 r1a (Nat.le_trans (Nat.le_of_eq (Nat.zero_add _)) C16) (fun i hi => hb1 s1 i lt1 (Nat.lt_of_lt_of_le hi C16)) C1 0 0 (Nat.zero_add _) rfl ⟨rfl, rfl, fun _ _ => rfl, fun _ _ _ => rfl, fun _ _ _ _ t => absurd t (Nat.not_lt_zero _)⟩
  have w2 : rw_r N S hr r2 := w01.trans R1.W
  have r2a : rD r2 (.inl 106) s1 = C1 := by
    unfold rD
    rw [w2.co lt1]
    exact k1r
  have r2b : rD r2 (.inl 106) s2 = C2 := by
    unfold rD
    rw [w2.co lt2]
    exact k2r
  have R2 : rc_F r2 r3 S s2 C1 C2 := by
    rw [q3, f279_eq]
    refine R279l lt2 S12 h2 hS r2a r2b CC (fun i hi => ?_) C2 0 0 (Nat.zero_add _) rfl ⟨rfl, rfl, fun _ _ => rfl, fun _ _ _ => rfl, fun _ _ _ _ t => absurd t (Nat.not_lt_zero _)⟩
    rw [w2.e lt2 110 (6 * s2 + i) (rjb_w (x := 4) (by decide +kernel) (by decide +kernel) (Nat.lt_of_lt_of_le hi C26))]
    exact hb _
  have w3 : rw_r N S hr r3 := w2.trans R2.W
  have r3n : rD r3 (.inl 105) 12 = N := by
    unfold rD
    rw [R2.2.2.2.1 105 12 (fun t => absurd t.1 (by decide +kernel)), R1.2.2.2.1 105 12 (fun t => absurd t.1 (by decide +kernel)), q1, rN (by decide +kernel), g5 12]
    exact A6
  have r3z : ∀ c, c < 36 → r3.2.1 (.inl 113) (36 * S + c) = 0 := fun c hc1 => by
    rw [R2.2.2.2.1 113 _ (fun t => absurd t.2.1 (by decide +kernel)), R1.2.2.2.1 113 _ (fun t => absurd t.2.1 (by decide +kernel)), q1, rN (by decide +kernel)]
    exact g36 c hc1
  have l3 : ∀ i, i < N → r3.2.1 (.inl 117) i = hr.2.1 (.inl 117) i := fun i hi => (w3.l hi).2
  have ref92 : ∀ {x : mx_H}, rz_FW S hc x → ∀ i, x.2.2.2 (.inl 92) i = hc.2.2.2 (.inl 92) i := fun W i => by rw [show _ = hc.2.2.2 from congrArg Prod.snd W.2.1]
  -- the first one's pieces
  have D1' : rs_D c1 r3 N s1 C1 n1 F1 := D1.x (Nat.le_refl _) (rs_ecF W1 lt1) (w3.e lt1) (fun i hi => ⟨l3 i hi, ref92 W1 i⟩)
  have J0 : rj_J c1 r3 S (C1 + C2) N 0 := by
    refine ⟨CC, ?_, r3n, fun q hq => absurd hq (Nat.not_lt_zero _), fun u v hu hv => Or.inl ?_, ?_⟩
    · unfold rD
      rw [K1.2.2.2.1 S 0 6 (rjb_k0 _), z6]
      rfl
    · rw [Nat.add_assoc]
      exact r3z _ (rjb_36 hu hv)
    · symm
      unfold sd_C
      rw [List.filter_eq_nil_iff.mpr (fun c hc1 => ?_)]
      · rfl
      · have lt : ∀ c ∈ sd_CL, c < 36 := by decide +kernel
        unfold rz_g
        rw [decide_eq_true_iff]
        exact fun t => t (r3z c (lt c hc1))
  have Z1 := rj_copy (C := C1 + C2) (o := 0) (B := N) (a4 := r3.2.1 (.inl 105) 12) (c2 := 0) D1' (rs_Hm A D1 l3) zC lt1 S12 h1 k_0 hS r3n (Nat.le_refl _) N 0 0 0 0 0 (hc := c1) (hr := r3) (Nat.zero_add _) rfl rfl (Or.inl ⟨Nat.zero_le _, rfl⟩) (Nat.le_refl _) room1 ⟨rj_c.refl, rj_r.refl, J0, fun u v hu hv t => absurd (by rw [Nat.add_assoc]; exact r3z _ (rjb_36 hu hv)) t⟩
  rw [en1, ← E2, show g278_9 a1 sS 0 (r3.2.1 (.inl 105) 12) 0 r3 = r4 by rw [q4, f278_eq]] at Z1
  obtain ⟨y1, y2, y3, y4⟩ := Z1
  have W2 : rz_FW S hc c2 := W1.trans y1.W
  have w4 : rw_r N S hr r4 := w3.trans y2.W
  -- corners of the second
  have c2S : rD c2 (.inr (S, 0)) 0 = C1 := by
    unfold rD
    rw [y1.2.2.2 S 0 0 rjb_c0]
    exact K1.2.2.2.2.1.trans (by rw [Nat.zero_add])
  have dS2 : rD c2 (.inr (s2, 0)) 0 = C2 := by
    unfold rD
    rw [W2.2.2.2 s2 0 0 (fun t => n2S t.1)]
    exact k2c
  obtain ⟨c3, ec3, K2⟩ := C64l (a2 := c2.2.1 (.inr (S, 0)) 0) (o := C1) n2S dS2 CC C2 0 0 (g := c2) (Nat.zero_add _) rfl ⟨rfl, rfl, fun _ _ => rfl, fun _ _ _ _ => rfl, c2S, fun _ _ _ _ _ => rfl, fun _ _ _ _ t => absurd t (Nat.not_lt_zero _)⟩
  have W3 : rz_FW S hc c3 := W2.trans K2.W
  have E4 : c4 = g64_102 S s2 (c2.2.1 (.inr (S, 0)) 0) 0 c3 := by rw [e4, f64_eq, ec3]
  have r4a : rD r4 (.inl 106) s1 = C1 := by
    unfold rD
    rw [w4.co lt1]
    exact k1r
  have oo : r4.2.1 (.inl 106) s1 = c2.2.1 (.inr (S, 0)) 0 := i_eq r4a c2S rfl
  have l4 : ∀ i, i < N → r4.2.1 (.inl 117) i = hr.2.1 (.inl 117) i := fun i hi => (w4.l hi).2
  have D2' : rs_D c3 r4 N s2 C2 n2 F2 := D2.x (Nat.le_refl _) (rs_ecF W3 lt2) (w4.e lt2) (fun i hi => ⟨l4 i hi, ref92 W3 i⟩)
  have kx : ∀ q u v, rs_k c2 r4 S (C1 + C2) N q u v → rs_k c3 r4 S (C1 + C2) N q u v := fun q u v Q => by
    obtain ⟨o1, o2, o3, o4, o5, o6, o7, o8, o9, o10, o11, o12⟩ := Q
    unfold rs_k rD
    rw [K2.2.2.2.1 S 5 q (rjb_kx (by decide +kernel) _ _), K2.2.2.2.1 S 6 q (rjb_kx (by decide +kernel) _ _), K2.2.2.2.1 S 7 q (rjb_kx (by decide +kernel) _ _), K2.2.2.2.1 S 8 q (rjb_kx (by decide +kernel) _ _)]
    exact ⟨o1, o2, o3, o4, o5, o6, o7, o8, o9, o10, o11, o12⟩
  have J1 : rj_J c3 r4 S (C1 + C2) N n1 := by
    obtain ⟨j0, j1, j2, j3, j4, j5⟩ := y3
    refine ⟨j0, ?_, j2, fun q hq => ?_, fun u v hu hv => ?_, j5⟩
    · unfold rD
      rw [K2.2.2.2.1 S 0 6 (rjb_k0 _)]
      exact j1
    · obtain ⟨b, u, v, Q⟩ := j3 q hq
      exact ⟨b, u, v, kx q u v Q⟩
    · rcases j4 u v hu hv with z | ⟨q, p1, p2⟩
      · exact Or.inl z
      · refine Or.inr ⟨q, p1, ?_⟩
        rcases p2 with p2 | p2
        · exact Or.inl (kx _ _ _ p2)
        · exact Or.inr (kx _ _ _ p2)
  have r4n : rD r4 (.inl 105) 12 = ((N + n1 : Nat) : Int) := y3.2.2.1
  have Z2 := rj_copy (C := C1 + C2) (o := C1) (B := N + n1) (a4 := r4.2.1 (.inl 105) 12) (c2 := c2.2.1 (.inr (S, 0)) 0) D2' (rs_Hm A D2 l4) (Nat.le_refl _) lt2 S12 h2 c2S hS r4n (Nat.le_add_right _ _) (N + n1) 0 0 n1 0 0 (hc := c3) (hr := r4) (Nat.zero_add _) rfl rfl (Or.inl ⟨Nat.zero_le _, rfl⟩) (Nat.le_refl _) room2 ⟨rj_c.refl, rj_r.refl, J1, fun u v hu hv t => Or.inl (by
    rcases y4 u v hu hv t with w | ⟨k', u0, v0, w1, w2, w3⟩
    · exact absurd w.1 (Nat.not_lt_zero _)
    · exact rjb_o w2.1 w2.2.1 w3)⟩
  rw [en2, ← E4, show g278_9 a2 sS (c2.2.1 (.inr (S, 0)) 0) (r4.2.1 (.inl 105) 12) 0 r4 = r5 by rw [q5, f278_eq, oo]] at Z2
  obtain ⟨x1, x2, x3, x4⟩ := Z2
  have W4 : rz_FW S hc c4 := W3.trans x1.W
  have w5 : rw_r N S hr r5 := w4.trans x2.W
  have r35 : ∀ q i, 106 ≤ q → q ≤ 110 → r5.2.1 (.inl q) i = r3.2.1 (.inl q) i := fun q i l1 l2 => by rw [x2.2.2.2 q i (rjb_q (i := i) l1 l2 _).1 (rjb_q (i := i) l1 l2 True).2.1 (rjb_q (i := i) l1 l2 _).2.2, y2.2.2.2 q i (rjb_q (i := i) l1 l2 _).1 (rjb_q (i := i) l1 l2 True).2.1 (rjb_q (i := i) l1 l2 _).2.2]
  refine ⟨W2, W4, w2, w4, w5, x3, fun u v hu hv t => ?_, ?_, ?_, fun x c l1 l2 hc1 => ?_⟩
  · rcases x4 u v hu hv t with w | ⟨k', u0, v0, w1, w2, w3⟩
    · exact Or.inl w
    · exact Or.inr (rjb_p w3)
  · unfold rD
    rw [x1.2.2.2 S 0 0 rjb_c0]
    exact K2.2.2.2.2.1
  · unfold rD
    rw [r35 106 S (by decide +kernel) (by decide +kernel), R2.2.2.2.1 106 S (fun t => absurd t.1 (by decide +kernel)), R1.2.2.2.1 106 S (fun t => absurd t.1 (by decide +kernel))]
    exact r1S
  · rw [x1.2.2.2 S x c (rjb_cx l1 l2 _), r35 (106 + x) _ (Nat.le_add_right _ _) (Nat.add_le_add_left l2 106)]
    have dd : ∀ s C m F i, s < S → rs_D hc hr N s C m F → i < C → hc.2.1 (.inr (s, x)) i = hr.2.1 (.inl (106 + x)) (6 * s + i) := fun s C m F i _ D hi => by
      obtain ⟨d1, d2, d3, d4⟩ := D.2.2.2.2.2.2.2.1 i hi
      rcases (rjb_x4 l1 l2) with t | t | t | t
      · subst t
        exact d1
      · subst t
        exact d2
      · subst t
        exact d3
      · subst t
        exact d4
    by_cases t : c < C1
    · rw [K2.2.2.2.2.2.1 x c l1 l2 t, y1.2.2.2 S x c (rjb_cx l1 l2 _), R2.2.2.2.1 (106 + x) (6 * S + c) (rjb_s t)]
      have p1 := K1.2.2.2.2.2.2 x c l1 l2 t
      have p2 := R1.2.2.2.2 (106 + x) c (Nat.add_le_add_left l1 106) (Nat.add_le_add_left l2 106) t
      rw [Nat.zero_add] at p1
      rw [Nat.add_zero] at p2
      rw [p1, p2, F0.2.2.2 s1 x c (fun t => n1S t.1), w01.e lt1 (106 + x) (6 * s1 + c) (rjb_w l1 l2 (Nat.lt_of_lt_of_le t C16))]
      exact dd s1 C1 n1 F1 c lt1 D1 t
    · obtain ⟨b1, b2, b3, b4⟩ := rjb_e (S := S) t hc1 CC
      have p1 := K2.2.2.2.2.2.2 x (c - C1) l1 l2 b1
      have p2 := R2.2.2.2.2 (106 + x) (c - C1) (Nat.add_le_add_left l1 106) (Nat.add_le_add_left l2 106) b1
      rw [b2] at p1
      rw [b3] at p2
      rw [p1, p2, W2.2.2.2 s2 x (c - C1) (fun t => n2S t.1), w2.e lt2 (106 + x) (6 * s2 + (c - C1)) (rjb_w l1 l2 b4)]
      exact dd s2 C2 n2 F2 (c - C1) lt2 D2 b1
end RBB
/-! ===== join(): answers and shapes alike ===== -/
section RCC
variable {h h' hc hr gc gr : mx_H} {S N s s1 s2 i j n C C1 C2 n1 n2 F1 F2 : Nat} {a a1 a2 a3 a4 sS : Int32}
theorem rj_J.x (p : ∀ o i, 5 ≤ o → o ≤ 8 → gc.2.1 (.inr (S, o)) i = hc.2.1 (.inr (S, o)) i) (p6 : gc.2.1 (.inr (S, 0)) 6 = hc.2.1 (.inr (S, 0)) 6) (p12 : gr.2.1 (.inl 105) 12 = hr.2.1 (.inl 105) 12) (q : ∀ k i, k = 111 ∨ k = 112 ∨ k = 113 ∨ k = 116 ∨ k = 117 → gr.2.1 (.inl k) i = hr.2.1 (.inl k) i) (J : rj_J hc hr S C N n) : rj_J gc gr S C N n := by
  have kx : ∀ m u v, rs_k hc hr S C N m u v → rs_k gc gr S C N m u v := fun m u v Q => by
    obtain ⟨o1, o2, o3, o4, o5, o6, o7, o8, o9, o10, o11, o12⟩ := Q
    unfold rs_k rD
    rw [p 5 m (by omega) (by omega), p 6 m (by omega) (by omega), p 7 m (by omega) (by omega), p 8 m (by omega) (by omega), q 113 (36 * S + 6 * u + v) (by omega), q 113 (36 * S + 6 * v + u) (by omega), q 111 (36 * S + 6 * u + v) (by omega), q 111 (36 * S + 6 * v + u) (by omega), q 112 (36 * S + 6 * u + v) (by omega), q 112 (36 * S + 6 * v + u) (by omega), q 117 (N + m) (by omega)]
    exact ⟨o1, o2, o3, o4, o5, o6, o7, o8, o9, o10, o11, o12⟩
  obtain ⟨j0, j1, j2, j3, j4, j5⟩ := J
  refine ⟨j0, ?_, ?_, fun m hm => ?_, fun u v hu hv => ?_, ?_⟩
  · unfold rD
    rw [p6]
    exact j1
  · unfold rD
    rw [p12]
    exact j2
  · rw [q 116 (N + m) (by omega)]
    obtain ⟨b, u, v, Q⟩ := j3 m hm
    exact ⟨b, u, v, kx m u v Q⟩
  · rw [q 113 (36 * S + 6 * u + v) (by omega)]
    rcases j4 u v hu hv with z | ⟨m, p1, p2⟩
    · exact Or.inl z
    · refine Or.inr ⟨m, p1, ?_⟩
      rcases p2 with p2 | p2
      · exact Or.inl (kx _ _ _ p2)
      · exact Or.inr (kx _ _ _ p2)
  · refine j5.trans ?_
    unfold sd_C
    congr 1
    refine List.filter_congr (fun c _ => ?_)
    unfold rz_g
    rw [q 113 (36 * S + c) (by omega)]
theorem x_opt_s {α : Type} {r : Option mx_A} {A : Nat → α} {B : α} (e : r = some (.inr (S, 0))) : x_opt (ml_sn r) A B = A S := by
  rw [e]
  rfl
/-- the class, where nothing is refused -/
theorem C142 (e1 : f166 a1 h = some s1) (e2 : f166 a2 h = some s2) (c3 : ¬ a3 < 0) (g1 : f164 s1 (a3 / 10) h = 1) (g2 : f164 s2 (a3 - a3 / 10 * 10) h = 1) (c4 : f157 a4 1 9 ≠ 0) (c6 : h.2.1 (.inr (s1, 0)) 0 + h.2.1 (.inr (s2, 0)) 0 ≤ 6) (cf : f168 (h.2.1 (.inr (s1, 0)) 6 + h.2.1 (.inr (s2, 0)) 6 + 1) h = 0)
    (d0 : h.2.2.2 (.inl 0) 3 = some (.inr (S, 0))) (d1 : (f59 S h).2.2.2 (.inl 0) 3 = some (.inr (S, 0))) (d2 : (f64 S s1 (f59 S h)).2.2.2 (.inl 0) 3 = some (.inr (S, 0))) (d3 : (f64 S s2 (f64 S s1 (f59 S h))).2.2.2 (.inl 0) 3 = some (.inr (S, 0)))
    (d4 : (f63 S (a3 / 10) ((f64 S s2 (f64 S s1 (f59 S h))).2.1 (.inr (s1, 0)) 0 + (a3 - a3 / 10 * 10)) a4 (f64 S s2 (f64 S s1 (f59 S h)))).2.2.2 (.inl 0) 3 = some (.inr (S, 0))) :
    f142 a1 a2 a3 a4 h = f169 (mx_uI (mx_uI (f63 S (a3 / 10) ((f64 S s2 (f64 S s1 (f59 S h))).2.1 (.inr (s1, 0)) 0 + (a3 - a3 / 10 * 10)) a4 (f64 S s2 (f64 S s1 (f59 S h)))) (.inr (S, 0)) 11 a1) (.inr (S, 0)) 12 a2) := by
  rw [f142_eq, e1, e2]
  show (if a3 < 0 then g142_53 h else _) = _
  rw [if_neg c3, if_neg (by rw [g1]; exact n10), if_neg (by rw [g2]; exact n10), if_pos c4, if_pos c6, if_pos cf]
  simp only [x_h, x_let]
  rw [x_opt_s d0, x_opt_s d1, x_opt_s d2, x_opt_s d3, x_opt_s d4, x_opt_s (show (mx_uI (f63 S (a3 / 10) ((f64 S s2 (f64 S s1 (f59 S h))).2.1 (.inr (s1, 0)) 0 + (a3 - a3 / 10 * 10)) a4 (f64 S s2 (f64 S s1 (f59 S h)))) (.inr (S, 0)) 11 a1).2.2.2 (.inl 0) 3 = some (.inr (S, 0)) from d4)]
theorem rj_J15 (J : rj_J hc hr S C N n) : n ≤ 15 := by
  rw [J.2.2.2.2.2]
  exact sd_C_15 _
/-- the draft stands: it becomes a shape -/
theorem rj_fin {M : Nat} {c5 r7 : mx_H} (A : rs_A hc hr S N) (q1 : S ≤ 11) (q2 : N + M ≤ 200) (M15 : M ≤ 15) (C1' : 1 ≤ C) (W5 : rz_FW S hc c5) (w7 : rw_r N S hr r7) (J2 : rj_J c5 r7 S C N M) (c5C : rD c5 (.inr (S, 0)) 0 = (C : Int)) (r7C : rD r7 (.inl 106) S = (C : Int)) (cor : ∀ x c, 1 ≤ x → x ≤ 4 → c < C → c5.2.1 (.inr (S, x)) c = r7.2.1 (.inl (106 + x)) (6 * S + c)) :
    (f169 (mx_uI (mx_uI c5 (.inr (S, 0)) 11 a1) (.inr (S, 0)) 12 a2)).1 = hr.2.1 (.inl 105) 1 ∧ rs_A (f169 (mx_uI (mx_uI c5 (.inr (S, 0)) 11 a1) (.inr (S, 0)) 12 a2)).2 (mx_uI (mx_uI (mx_uI r7 (.inl 114) S a1) (.inl 115) S a2) (.inl 105) 1 (r7.2.1 (.inl 105) 1 + 1)) (S + 1) (N + M) ∧ (∀ s, s < S → rs_ec s hc (f169 (mx_uI (mx_uI c5 (.inr (S, 0)) 11 a1) (.inr (S, 0)) 12 a2)).2) ∧ ∀ i, (f169 (mx_uI (mx_uI c5 (.inr (S, 0)) 11 a1) (.inr (S, 0)) 12 a2)).2.2.2.2 (.inl 85) i = hc.2.2.2 (.inl 85) i := by
  obtain ⟨A1, A2, A3, A4, A5, A6, A7, A8, A9, A10⟩ := id A
  have rf : ∀ {x : mx_H}, rz_FW S hc x → x.2.2.2 (.inl 0) 3 = some (.inr (S, 0)) := fun W => by
    rw [show _ = hc.2.2.2 from congrArg Prod.snd W.2.1]
    exact A8
  have W6 : rz_FW S hc (mx_uI (mx_uI (mx_uI c5 (.inr (S, 0)) 11 a1) (.inr (S, 0)) 12 a2) (.inr (S, 0)) 5 (c5.2.1 (.inl 90) 0)) := ((W5.s (by decide +kernel)).s (by decide +kernel)).s (by decide +kernel)
  have pi : ∀ i, i ≠ 5 → i ≠ 11 → i ≠ 12 → (mx_uI (mx_uI (mx_uI c5 (.inr (S, 0)) 11 a1) (.inr (S, 0)) 12 a2) (.inr (S, 0)) 5 (c5.2.1 (.inl 90) 0)).2.1 (.inr (S, 0)) i = c5.2.1 (.inr (S, 0)) i := fun i w1 w2 w3 => by rw [rI_i w1, rI_i w3, rI_i w2]
  have p11 : (mx_uI (mx_uI (mx_uI c5 (.inr (S, 0)) 11 a1) (.inr (S, 0)) 12 a2) (.inr (S, 0)) 5 (c5.2.1 (.inl 90) 0)).2.1 (.inr (S, 0)) 11 = a1 := by rw [rI_i (by decide +kernel), rI_i (by decide +kernel), rI_s]
  have p12 : (mx_uI (mx_uI (mx_uI c5 (.inr (S, 0)) 11 a1) (.inr (S, 0)) 12 a2) (.inr (S, 0)) 5 (c5.2.1 (.inl 90) 0)).2.1 (.inr (S, 0)) 12 = a2 := by rw [rI_i (by decide +kernel), rI_s]
  have p5 : (mx_uI (mx_uI (mx_uI c5 (.inr (S, 0)) 11 a1) (.inr (S, 0)) 12 a2) (.inr (S, 0)) 5 (c5.2.1 (.inl 90) 0)).2.1 (.inr (S, 0)) 5 = c5.2.1 (.inl 90) 0 := rI_s
  have po : ∀ o, o ≠ 0 → (mx_uI (mx_uI (mx_uI c5 (.inr (S, 0)) 11 a1) (.inr (S, 0)) 12 a2) (.inr (S, 0)) 5 (c5.2.1 (.inl 90) 0)).2.1 (.inr (S, o)) = c5.2.1 (.inr (S, o)) := fun o ho => by rw [rS ho, rS ho, rS ho]
  have x90 : rD c5 (.inl 90) 0 = N := by
    unfold rD
    rw [W5.2.2.1 90 0 (by decide +kernel)]
    exact A5
  have x2 : rD c5 (.inl 0) 2 = S := by
    unfold rD
    rw [W5.2.2.1 0 2 (by decide +kernel)]
    exact A3
  have x2' : rD (mx_uI (mx_uI (mx_uI c5 (.inr (S, 0)) 11 a1) (.inr (S, 0)) 12 a2) (.inr (S, 0)) 5 (c5.2.1 (.inl 90) 0)) (.inl 0) 2 = S := x2
  have x90' : rD (mx_uI (mx_uI (mx_uI c5 (.inr (S, 0)) 11 a1) (.inr (S, 0)) 12 a2) (.inr (S, 0)) 5 (c5.2.1 (.inl 90) 0)) (.inl 90) 0 = N := x90
  rw [C169 (h := mx_uI (mx_uI c5 (.inr (S, 0)) 11 a1) (.inr (S, 0)) 12 a2) (S := S) (show c5.2.2.2 (.inl 0) 3 = _ from rf W5)]
  show ((g169_16 0 (mx_uI (mx_uI (mx_uI c5 (.inr (S, 0)) 11 a1) (.inr (S, 0)) 12 a2) (.inr (S, 0)) 5 (c5.2.1 (.inl 90) 0))).1 = hr.2.1 (.inl 105) 1) ∧ rs_A (g169_16 0 (mx_uI (mx_uI (mx_uI c5 (.inr (S, 0)) 11 a1) (.inr (S, 0)) 12 a2) (.inr (S, 0)) 5 (c5.2.1 (.inl 90) 0))).2 _ (S + 1) (N + M) ∧ (∀ s, s < S → rs_ec s hc (g169_16 0 (mx_uI (mx_uI (mx_uI c5 (.inr (S, 0)) 11 a1) (.inr (S, 0)) 12 a2) (.inr (S, 0)) 5 (c5.2.1 (.inl 90) 0))).2) ∧ ∀ i, (g169_16 0 (mx_uI (mx_uI (mx_uI c5 (.inr (S, 0)) 11 a1) (.inr (S, 0)) 12 a2) (.inr (S, 0)) 5 (c5.2.1 (.inl 90) 0))).2.2.2.2 (.inl 85) i = hc.2.2.2 (.inl 85) i
  generalize mx_uI (mx_uI (mx_uI c5 (.inr (S, 0)) 11 a1) (.inr (S, 0)) 12 a2) (.inr (S, 0)) 5 (c5.2.1 (.inl 90) 0) = hx at W6 pi p11 p12 p5 po x2' x90' ⊢
  have xj : rD hx (.inr (S, 0)) 6 = (M : Int) := by
    unfold rD
    rw [pi 6 (by decide +kernel) (by decide +kernel) (by decide +kernel)]
    exact J2.2.1
  obtain ⟨gc, B, ec2⟩ := C169g (N := N) q1 M 0 0 (h := hx) (g := hx) (by omega) rfl M15 q2 xj (rf W6) x2' (W6.1.trans A7) ⟨rfl, fun _ _ => rfl, fun _ _ _ _ => rfl, x90', fun _ _ _ => rfl, fun _ _ => ⟨rfl, rfl⟩, fun i l1 l2 => by omega⟩
  rw [ec2]
  have r71 : r7.2.1 (.inl 105) 1 = hr.2.1 (.inl 105) 1 := w7.2.2.2 105 1 (by unfold rz_w; omega) (by omega) (by omega)
  have gl : ∀ k i, ¬ (k = 114 ∧ i = S) → ¬ (k = 115 ∧ i = S) → ¬ (k = 105 ∧ i = 1) → (mx_uI (mx_uI (mx_uI r7 (.inl 114) S a1) (.inl 115) S a2) (.inl 105) 1 (r7.2.1 (.inl 105) 1 + 1)).2.1 (.inl k) i = r7.2.1 (.inl k) i := fun k i p q r => (if_neg (fun z => r ⟨Sum.inl.inj z.1, z.2⟩)).trans ((if_neg (fun z => q ⟨Sum.inl.inj z.1, z.2⟩)).trans (if_neg (fun z => p ⟨Sum.inl.inj z.1, z.2⟩)))
  have g1 : (mx_uI (mx_uI (mx_uI r7 (.inl 114) S a1) (.inl 115) S a2) (.inl 105) 1 (r7.2.1 (.inl 105) 1 + 1)).2.1 (.inl 105) 1 = hr.2.1 (.inl 105) 1 + 1 := by rw [rI_s, r71]
  have g4 : (mx_uI (mx_uI (mx_uI r7 (.inl 114) S a1) (.inl 115) S a2) (.inl 105) 1 (r7.2.1 (.inl 105) 1 + 1)).2.1 (.inl 114) S = a1 := (show (mx_uI r7 (.inl 114) S a1).2.1 (.inl 114) S = a1 from rI_s)
  have g5 : (mx_uI (mx_uI (mx_uI r7 (.inl 114) S a1) (.inl 115) S a2) (.inl 105) 1 (r7.2.1 (.inl 105) 1 + 1)).2.1 (.inl 115) S = a2 := (show (mx_uI (mx_uI r7 (.inl 114) S a1) (.inl 115) S a2).2.1 (.inl 115) S = a2 from rI_s)
  generalize mx_uI (mx_uI (mx_uI r7 (.inl 114) S a1) (.inl 115) S a2) (.inl 105) 1 (r7.2.1 (.inl 105) 1 + 1) = gM at gl g1 g4 g5 ⊢
  refine ⟨?_, rs_grow A q1 q2 C1' W6 (by unfold rD; rw [p5]; exact x90) B ?_ ?_ (fun s hs k i w => ?_) (fun i hi => ?_) ?_ ?_ (fun c hc1 => ?_) ⟨?_, fun _ => ?_⟩, fun s hs => k_N_ec B W6 hs, fun i => k_N_r B W6⟩
  · show gc.2.1 (.inl 0) 2 + 1 - 1 = _
    have y : rD gc (.inl 0) 2 = S := by
      unfold rD
      rw [B.2.2.1 0 2 (by decide +kernel) (by decide +kernel)]
      exact x2'
    exact i_eq (i_sub (i_add y k_1 (by omega) (by omega)) k_1 (by omega) (by omega)) A4 (by omega)
  · unfold rD
    rw [g1]
    exact (i_add A4 k_1 (by omega) (by omega)).trans (by omega)
  · exact rj_J.x (fun o i l1 l2 => by rw [po o (by omega)]) (pi 6 (by decide +kernel) (by decide +kernel) (by decide +kernel)) (gl 105 12 (by omega) (by omega) (by omega)) (fun k i t => gl k i (by omega) (by omega) (by omega)) J2
  · have w' := w
    unfold rs_w at w'
    rw [gl k i (by omega) (by omega) (by omega)]
    exact w7.e hs k i w
  · rw [gl 116 i (by omega) (by omega) (by omega), gl 117 i (by omega) (by omega) (by omega)]
    exact w7.l hi
  · unfold rD
    rw [pi 0 (by decide +kernel) (by decide +kernel) (by decide +kernel)]
    exact c5C
  · unfold rD
    rw [gl 106 S (by omega) (by omega) (by omega)]
    exact r7C
  · have cx : ∀ x, 1 ≤ x → x ≤ 4 → hx.2.1 (.inr (S, x)) c = gM.2.1 (.inl (106 + x)) (6 * S + c) := fun x l1 l2 => by
      rw [po x (by omega), gl (106 + x) (6 * S + c) (by omega) (by omega) (by omega)]
      exact cor x c l1 l2 hc1
    exact ⟨cx 1 (by omega) (by omega), cx 2 (by omega) (by omega), cx 3 (by omega) (by omega), cx 4 (by omega) (by omega)⟩
  · rw [p11, g4]
  · rw [p12, g5]
/-- the joint piece -/
theorem rj_joint {c4 r5 : mx_H} {x y : Int32} {u w : Nat} (A : rs_A hc hr S N) (q1 : S ≤ 11) (q2 : N + (n1 + n2 + 1) ≤ 200) (c6 : C1 + C2 ≤ 6) (W4 : rz_FW S hc c4) (w5 : rw_r N S hr r5) (J : rj_J c4 r5 S (C1 + C2) N (n1 + n2)) (zone : ∀ u v, u < 6 → v < 6 → ¬ r5.2.1 (.inl 113) (36 * S + 6 * u + v) = 0 → (u < C1 ∧ v < C1) ∨ (C1 ≤ u ∧ C1 ≤ v)) (c4C : rD c4 (.inr (S, 0)) 0 = ((C1 + C2 : Nat) : Int)) (r5C : rD r5 (.inl 106) S = ((C1 + C2 : Nat) : Int)) (cor : ∀ x c, 1 ≤ x → x ≤ 4 → c < C1 + C2 → c4.2.1 (.inr (S, x)) c = r5.2.1 (.inl (106 + x)) (6 * S + c))
    (hx : x.toInt = (u : Int)) (hu : u < C1) (hy : y.toInt = (w : Int)) (hw : w < C2) (yc : rD c4 (.inr (s1, 0)) 0 = C1) (yr : rD r5 (.inl 106) s1 = C1) (h40 : 0 ≤ a4.toInt) :
    (f181 (hr.2.1 (.inl 105) 1) x (r5.2.1 (.inl 106) s1 + y) (r5.2.1 (.inl 105) 12) a4 0 r5).2.1 (.inl 106) s1 = r5.2.1 (.inl 106) s1 ∧ rz_FW S hc (f63 S x (c4.2.1 (.inr (s1, 0)) 0 + y) a4 c4) ∧ rw_r N S hr (f193 (hr.2.1 (.inl 105) 1) x (r5.2.1 (.inl 106) s1 + y) (f181 (hr.2.1 (.inl 105) 1) x (r5.2.1 (.inl 106) s1 + y) (r5.2.1 (.inl 105) 12) a4 0 r5)) ∧
    rj_J (f63 S x (c4.2.1 (.inr (s1, 0)) 0 + y) a4 c4) (f193 (hr.2.1 (.inl 105) 1) x (r5.2.1 (.inl 106) s1 + y) (f181 (hr.2.1 (.inl 105) 1) x (r5.2.1 (.inl 106) s1 + y) (r5.2.1 (.inl 105) 12) a4 0 r5)) S (C1 + C2) N (n1 + n2 + 1) ∧ rD (f63 S x (c4.2.1 (.inr (s1, 0)) 0 + y) a4 c4) (.inr (S, 0)) 0 = ((C1 + C2 : Nat) : Int) ∧ rD (f193 (hr.2.1 (.inl 105) 1) x (r5.2.1 (.inl 106) s1 + y) (f181 (hr.2.1 (.inl 105) 1) x (r5.2.1 (.inl 106) s1 + y) (r5.2.1 (.inl 105) 12) a4 0 r5)) (.inl 106) S = ((C1 + C2 : Nat) : Int) ∧
    ∀ q c, 1 ≤ q → q ≤ 4 → c < C1 + C2 → (f63 S x (c4.2.1 (.inr (s1, 0)) 0 + y) a4 c4).2.1 (.inr (S, q)) c = (f193 (hr.2.1 (.inl 105) 1) x (r5.2.1 (.inl 106) s1 + y) (f181 (hr.2.1 (.inl 105) 1) x (r5.2.1 (.inl 106) s1 + y) (r5.2.1 (.inl 105) 12) a4 0 r5)).2.1 (.inl (106 + q)) (6 * S + c) := by
  have A4 := A.2.2.2.1
  have hyc : (c4.2.1 (.inr (s1, 0)) 0 + y).toInt = ((C1 + w : Nat) : Int) := (i_add yc hy (by omega) (by omega)).trans (by omega)
  have hyr : (r5.2.1 (.inl 106) s1 + y).toInt = ((C1 + w : Nat) : Int) := (i_add yr hy (by omega) (by omega)).trans (by omega)
  have z1 : r5.2.1 (.inl 113) (36 * S + 6 * u + (C1 + w)) = 0 := Classical.byContradiction fun t => by
    have := zone u (C1 + w) (by omega) (by omega) t
    omega
  have z2 : r5.2.1 (.inl 113) (36 * S + 6 * (C1 + w) + u) = 0 := Classical.byContradiction fun t => by
    have := zone (C1 + w) u (by omega) (by omega) t
    omega
  have M15 := rj_15 J (by omega) (by omega) (by omega) z1 z2
  have j1 := J.2.1
  have j2 := J.2.2.1
  generalize c4.2.1 (.inr (s1, 0)) 0 + y = yy at hyc
  generalize r5.2.1 (.inl 106) s1 + y = zz at hyr
  have r6a : (f181 (hr.2.1 (.inl 105) 1) x zz (r5.2.1 (.inl 105) 12) a4 0 r5).2.1 (.inl 106) s1 = r5.2.1 (.inl 106) s1 := by
    rw [k181 A4 hx hyr (by omega) (by omega) (by omega), k_po (by decide +kernel) (by decide +kernel) (by decide +kernel), k_po (by decide +kernel) (by decide +kernel) (by decide +kernel)]
  have w179' := w179 A4 hx hyr (by omega) (by omega) (by omega)
  have bo : (r5.2.1 (.inl 105) 12 + 1).toInt = ((N + (n1 + n2) + 1 : Nat) : Int) := (i_add j2 k_1 (by omega) (by omega)).trans (by omega)
  have K := k63 (h := c4) (S := S) (n := n1 + n2) (a := x) (b := yy) (d := a4) j1 M15
  have R := R_add (hr := r5) (d := a4) (e := 0) (N := N + (n1 + n2)) A4 hx hyr j2 (by omega) (by omega) (by omega) (by omega) rfl
  refine ⟨r6a, ?_⟩
  rw [K]
  generalize f193 (hr.2.1 (.inl 105) 1) x zz (f181 (hr.2.1 (.inl 105) 1) x zz (r5.2.1 (.inl 105) 12) a4 0 r5) = r7 at R ⊢
  obtain ⟨t1, t2, t3, t4, t5, t6, t7, t8, t9, t10, t11⟩ := R
  refine ⟨W4.trans k_apF.W, w5.trans ⟨t1, t2, t3, fun k i p q r => ?_⟩, (rj_add (u := u) (v := C1 + w) J (by omega) (by omega) (by omega) z1 z2 (fun i => ka5) (fun i => ka6) (fun i => ka7) (fun i => ka8)
    (by unfold rD; rw [ka0, if_pos rfl]; exact (i_add j1 k_1 (by omega) (by omega)).trans (by omega)) (k_mn_v hx hyc) (k_mx_v hx hyc) bo (w := f179 (hr.2.1 (.inl 105) 1) x zz + 1) ((i_add w179' k_1 (by omega) (by omega)).trans (by omega)) t4 t5 t6 t7 t8 (by unfold rD; rw [t9]; exact bo) (by rw [k_0]; exact h40)).1, ?_, ?_, fun q c l1 l2 hc1 => ?_⟩
  · by_cases c105 : k = 105
    · subst c105
      exact t10 i (by omega)
    · by_cases c111 : k = 111
      · subst c111
        rw [t5, if_neg (fun e => p (by unfold rz_w; omega)), if_neg (fun e => p (by unfold rz_w; omega))]
      · by_cases c112 : k = 112
        · subst c112
          rw [t6, if_neg (fun e => p (by unfold rz_w; omega)), if_neg (fun e => p (by unfold rz_w; omega))]
        · by_cases c113 : k = 113
          · subst c113
            rw [t4, if_neg (fun e => p (by unfold rz_w; omega)), if_neg (fun e => p (by unfold rz_w; omega))]
          · by_cases c116 : k = 116
            · subst c116
              rw [t7, if_neg (by omega)]
            · by_cases c117 : k = 117
              · subst c117
                rw [t8, if_neg (by omega)]
              · exact t11 k i c105 c111 c112 c113 c116 c117
  · unfold rD
    rw [ka0, if_neg (by decide +kernel)]
    exact c4C
  · unfold rD
    rw [t11 106 S (by decide +kernel) (by decide +kernel) (by decide +kernel) (by decide +kernel) (by decide +kernel) (by decide +kernel)]
    exact r5C
  · rw [kao (by omega) (by omega) (by omega) (by omega) (by omega), t11 (106 + q) (6 * S + c) (by omega) (by omega) (by omega) (by omega) (by omega) (by omega)]
    exact cor q c l1 l2 hc1
set_option maxHeartbeats 8000000 in
theorem rs_join (A : rs_A hc hr S N) (nn : ∀ p, 0 ≤ rD hr (.inl 113) p) (hb : ∀ i, hr.2.1 (.inl 110) i = 0 ∨ hr.2.1 (.inl 110) i = 1) : (f142 a1 a2 a3 a4 hc).1 = (f280 a1 a2 a3 a4 hr).1 ∧ ∃ S' N', (S ≤ S' ∧ N ≤ N') ∧ rs_A (f142 a1 a2 a3 a4 hc).2 (f280 a1 a2 a3 a4 hr).2 S' N' ∧ (∀ s, s < S → rs_ec s hc (f142 a1 a2 a3 a4 hc).2) ∧ ∀ i, (f142 a1 a2 a3 a4 hc).2.2.2.2 (.inl 85) i = hc.2.2.2 (.inl 85) i := by
  obtain ⟨A1, A2, A3, A4, A5, A6, A7, A8, A9, A10⟩ := id A
  have bad : g142_53 hc = (-1, hc) := g142_53_eq hc
  have fin : ∀ {x : Int32}, f142 a1 a2 a3 a4 hc = (x, hc) → f280 a1 a2 a3 a4 hr = (x, hr) → (f142 a1 a2 a3 a4 hc).1 = (f280 a1 a2 a3 a4 hr).1 ∧ ∃ S' N', (S ≤ S' ∧ N ≤ N') ∧ rs_A (f142 a1 a2 a3 a4 hc).2 (f280 a1 a2 a3 a4 hr).2 S' N' ∧ (∀ s, s < S → rs_ec s hc (f142 a1 a2 a3 a4 hc).2) ∧ ∀ i, (f142 a1 a2 a3 a4 hc).2.2.2.2 (.inl 85) i = hc.2.2.2 (.inl 85) i := fun q1 q2 => by
    rw [q1, q2]
    exact ⟨rfl, S, N, ⟨Nat.le_refl _, Nat.le_refl _⟩, A, fun _ _ _ _ _ => rfl, fun _ => rfl⟩
  rcases C166 (a := a1) A with ⟨s1, lt1, h1, e1, e1'⟩ | ⟨e1, e1'⟩
  · rcases C166 (a := a2) A with ⟨s2, lt2, h2, e2, e2'⟩ | ⟨e2, e2'⟩
    · obtain ⟨C1, n1, F1, D1⟩ := (A9 s1 lt1).2
      obtain ⟨C2, n2, F2, D2⟩ := (A9 s2 lt2).2
      by_cases c3 : a3 < 0
      · refine fin (x := -1) ?_ ?_
        · rw [f142_eq, e1, e2]
          show (if a3 < 0 then g142_53 hc else _) = _
          rw [if_pos c3, bad]
        · rw [f280_eq, e1', e2', if_neg n10, if_neg n10, if_pos c3]
      · rcases C164 (x := a3 / 10) h1 D1.2.2.2.1 D1.2.2.2.2.1 D1.2.1 with ⟨u, hu, hx, g1, g1'⟩ | ⟨g1, g1'⟩
        · rcases C164 (x := a3 - a3 / 10 * 10) h2 D2.2.2.2.1 D2.2.2.2.2.1 D2.2.1 with ⟨w, hw, hy, g2, g2'⟩ | ⟨g2, g2'⟩
          · have ws : f157 a4 1 9 = f173 a4 1 9 := w_ws
            by_cases nv : f173 a4 1 9 = 0
            · refine fin (x := -1) ?_ ?_
              · rw [f142_eq, e1, e2]
                show (if a3 < 0 then g142_53 hc else _) = _
                rw [if_neg c3, if_neg (by rw [g1]; exact n10), if_neg (by rw [g2]; exact n10), if_neg (by rw [ws]; exact fun t => t nv), bad]
              · rw [f280_eq, e1', e2', if_neg n10, if_neg n10, if_neg c3, if_neg (by rw [g1']; exact n10), if_neg (by rw [g2']; exact n10), if_pos nv]
            · have C16 := D1.2.1
              have C26 := D2.2.1
              have k1c := D1.2.2.2.1
              have k2c := D2.2.2.2.1
              have k1r := D1.2.2.2.2.1
              have k2r := D2.2.2.2.2.1
              have m1 := D1.2.2.2.2.2.1
              have m2 := D2.2.2.2.2.2.1
              have n1e := D1.2.2.2.2.2.2.2.2.2.2.2.1
              have n2e := D2.2.2.2.2.2.2.2.2.2.2.2.1
              have n115 : n1 ≤ 15 := by
                rw [n1e]
                exact sd_C_15 _
              have n215 : n2 ≤ 15 := by
                rw [n2e]
                exact sd_C_15 _
              have sc := i_add k1c k2c (by omega) (by omega)
              have sr := i_add k1r k2r (by omega) (by omega)
              have sp := i_add (i_add m1 m2 (by omega) (by omega)) k_1 (by omega) (by omega)
              by_cases c6 : C1 + C2 ≤ 6
              · have cc6 : hc.2.1 (.inr (s1, 0)) 0 + hc.2.1 (.inr (s2, 0)) 0 ≤ 6 := i_le sc k_6 (by omega)
                have cr6 : hr.2.1 (.inl 106) s1 + hr.2.1 (.inl 106) s2 ≤ 6 := i_le sr k_6 (by omega)
                have f1 := R183 (h := hr) h1 (by omega) nn
                have f2 := R183 (h := hr) h2 (by omega) nn
                rw [← n1e] at f1
                rw [← n2e] at f2
                have tot := i_add (i_add (i_add A6 f1 (by omega) (by omega)) f2 (by omega) (by omega)) k_1 (by omega) (by omega)
                rcases C168 (a := hc.2.1 (.inr (s1, 0)) 6 + hc.2.1 (.inr (s2, 0)) 6 + 1) (p := n1 + n2 + 1) A3 A5 (by rw [sp]; omega) A1 A2 (by omega) with ⟨q1, q2, q3⟩ | ⟨q1, q3⟩
                · -- a new shape
                  have S12 : ¬ hr.2.1 (.inl 105) 1 = 12 := i_ne A4 k_12 (by omega)
                  have B := rj_both A lt1 lt2 D1 D2 q1 q2 c6 h1 h2 A4 hb rfl rfl rfl rfl rfl rfl rfl rfl
                  generalize hc2 : f64 S s1 (f59 S hc) = c2 at B
                  generalize hc4 : f64 S s2 c2 = c4 at B
                  generalize hr0 : f182 (hr.2.1 (.inl 105) 1) hr = r0 at B
                  generalize hr1 : mx_uI r0 (.inl 106) S (r0.2.1 (.inl 106) s1 + r0.2.1 (.inl 106) s2) = r1 at B
                  generalize hr2 : f279 a1 (hr.2.1 (.inl 105) 1) 0 r1 = r2 at B
                  generalize hr3 : f279 a2 (hr.2.1 (.inl 105) 1) (r2.2.1 (.inl 106) s1) r2 = r3 at B
                  generalize hr4 : f278 a1 (hr.2.1 (.inl 105) 1) 0 r3 = r4 at B
                  generalize hr5 : f278 a2 (hr.2.1 (.inl 105) 1) (r4.2.1 (.inl 106) s1) r4 = r5 at B
                  obtain ⟨W2, W4, w2, w4, w5, J, zone, c4C, r5C, cor⟩ := B
                  have F0 := (C59s S hc).1
                  have rf : ∀ {x : mx_H}, rz_FW S hc x → x.2.2.2 (.inl 0) 3 = some (.inr (S, 0)) := fun W => by
                    rw [show _ = hc.2.2.2 from congrArg Prod.snd W.2.1]
                    exact A8
                  have yc : rD c4 (.inr (s1, 0)) 0 = C1 := by
                    unfold rD
                    rw [W4.2.2.2 s1 0 0 (by omega)]
                    exact k1c
                  have yr : rD r5 (.inl 106) s1 = C1 := by
                    unfold rD
                    rw [w5.co lt1]
                    exact k1r
                  obtain ⟨r6a, W5, w7, J2, c5C, r7C, cor5⟩ := rj_joint (a4 := a4) A q1 q2 c6 W4 w5 J zone c4C r5C cor hx hu hy hw yc yr (by
                    have b : 1 ≤ a4.toInt ∧ a4.toInt ≤ 9 := Classical.byContradiction fun q => nv (w173_0 rfl k_1 k_9 q)
                    omega)
                  have ec : f142 a1 a2 a3 a4 hc = f169 (mx_uI (mx_uI (f63 S (a3 / 10) (c4.2.1 (.inr (s1, 0)) 0 + (a3 - a3 / 10 * 10)) a4 c4) (.inr (S, 0)) 11 a1) (.inr (S, 0)) 12 a2) := by
                    have q := C142 (h := hc) (S := S) e1 e2 c3 g1 g2 (by rw [ws]; exact nv) cc6 q3 A8 (rf F0) (by rw [hc2]; exact rf W2) (by rw [hc2, hc4]; exact rf W4) (by rw [hc2, hc4]; exact rf W5)
                    rw [hc2, hc4] at q
                    exact q
                  generalize hr6 : f181 (hr.2.1 (.inl 105) 1) (a3 / 10) (r5.2.1 (.inl 106) s1 + (a3 - a3 / 10 * 10)) (r5.2.1 (.inl 105) 12) a4 0 r5 = r6 at r6a w7 J2 r7C cor5
                  have er : f280 a1 a2 a3 a4 hr = (hr.2.1 (.inl 105) 1, mx_uI (mx_uI (mx_uI (f193 (hr.2.1 (.inl 105) 1) (a3 / 10) (r5.2.1 (.inl 106) s1 + (a3 - a3 / 10 * 10)) r6) (.inl 114) S a1) (.inl 115) S a2) (.inl 105) 1 ((f193 (hr.2.1 (.inl 105) 1) (a3 / 10) (r5.2.1 (.inl 106) s1 + (a3 - a3 / 10 * 10)) r6).2.1 (.inl 105) 1 + 1)) := by
                    rw [f280_eq, e1', e2', if_neg n10, if_neg n10, if_neg c3, if_neg (by rw [g1']; exact n10), if_neg (by rw [g2']; exact n10), if_neg nv, i_cl h1, i_cl h2, if_pos cr6, if_neg S12, if_pos (i_le tot k_200 (by omega))]
                    simp only [x_h]
                    rw [i_cl A4, hr0, hr1, hr2, hr3, hr4, hr5, hr6, r6a]
                    rfl
                  rw [er, ec]
                  obtain ⟨z1, z2, z3⟩ := rj_fin (a1 := a1) (a2 := a2) A q1 q2 (show n1 + n2 + 1 ≤ 15 by have := rj_J15 J2; omega) (show 1 ≤ C1 + C2 by have := D1.1; omega) W5 w7 J2 c5C r7C cor5
                  exact ⟨z1, S + 1, N + (n1 + n2 + 1), ⟨by omega, by omega⟩, z2, z3⟩
                · refine fin (x := -3) ?_ ?_
                  · rw [f142_eq, e1, e2]
                    show (if a3 < 0 then g142_53 hc else _) = _
                    rw [if_neg c3, if_neg (by rw [g1]; exact n10), if_neg (by rw [g2]; exact n10), if_pos (by rw [ws]; exact nv), if_pos cc6, if_neg (by rw [q3]; exact n10)]
                  · rw [f280_eq, e1', e2', if_neg n10, if_neg n10, if_neg c3, if_neg (by rw [g1']; exact n10), if_neg (by rw [g2']; exact n10), if_neg nv, i_cl h1, i_cl h2, if_pos cr6]
                    by_cases c12 : S = 12
                    · rw [if_pos (i_eq A4 k_12 (by omega))]
                    · rw [if_neg (i_ne A4 k_12 (by omega)), if_neg (i_nle tot k_200 (by omega))]
              · refine fin (x := -1) ?_ ?_
                · rw [f142_eq, e1, e2]
                  show (if a3 < 0 then g142_53 hc else _) = _
                  rw [if_neg c3, if_neg (by rw [g1]; exact n10), if_neg (by rw [g2]; exact n10), if_pos (by rw [ws]; exact nv), if_neg (i_nle sc k_6 (by omega))]
                · rw [f280_eq, e1', e2', if_neg n10, if_neg n10, if_neg c3, if_neg (by rw [g1']; exact n10), if_neg (by rw [g2']; exact n10), if_neg nv, i_cl h1, i_cl h2, if_neg (i_nle sr k_6 (by omega))]
          · refine fin (x := -1) ?_ ?_
            · rw [f142_eq, e1, e2]
              show (if a3 < 0 then g142_53 hc else _) = _
              rw [if_neg c3, if_neg (by rw [g1]; exact n10), if_pos g2, bad]
            · rw [f280_eq, e1', e2', if_neg n10, if_neg n10, if_neg c3, if_neg (by rw [g1']; exact n10), if_pos g2']
        · refine fin (x := -1) ?_ ?_
          · rw [f142_eq, e1, e2]
            show (if a3 < 0 then g142_53 hc else _) = _
            rw [if_neg c3, if_pos g1, bad]
          · rw [f280_eq, e1', e2', if_neg n10, if_neg n10, if_neg c3, if_pos g1']
    · refine fin (x := -1) ?_ ?_
      · rw [f142_eq, e1, e2]
        show (if a3 < 0 then g142_53 hc else if f164 s1 (a3 / 10) hc = 0 then g142_53 hc else g142_53 hc) = _
        rw [ite_self, ite_self, bad]
      · rw [f280_eq, e1', e2', if_neg n10, if_pos rfl]
  · refine fin (x := -1) ?_ ?_
    · rw [f142_eq, e1]
      cases f166 a2 hc with
      | none =>
        show (if a3 < 0 then g142_53 hc else g142_53 hc) = _
        rw [ite_self, bad]
      | some j =>
        show (if a3 < 0 then g142_53 hc else g142_53 hc) = _
        rw [ite_self, bad]
    · rw [f280_eq, e1', if_pos rfl]
end RCC
/-! ===== what was done: both histories alike ===== -/
section RDD
variable {h h' g hc hr gc gr : mx_H} {S S' N s i j n m k c D U E : Nat} {a a1 a2 a3 a4 a5 : Int32} {V V' : Nat → Nat → Nat → Int}
/-- entry j is of a corner -/
def rh_c (hc hr : mx_H) (s j : Nat) : Prop := ∃ o c : Nat, c < 6 ∧ rD hc (.inl 87) j = c ∧ rD hr (.inl 124) j = ((6 * s + c : Nat) : Int) ∧ hc.2.1 (.inl 88) j = hr.2.1 (.inl 125) j ∧ hc.2.1 (.inl 89) j = hr.2.1 (.inl 126) j ∧
  ((o = 2 ∧ hc.2.1 (.inl 86) j = 0 ∧ hr.2.1 (.inl 123) j = 0) ∨ (o = 3 ∧ hc.2.1 (.inl 86) j = 1 ∧ hr.2.1 (.inl 123) j = 1) ∨ (o = 1 ∧ hc.2.1 (.inl 86) j = 3 ∧ hr.2.1 (.inl 123) j = 5) ∨
   (o = 4 ∧ hc.2.1 (.inl 86) j = 2 ∧ hr.2.1 (.inl 123) j = 2 ∧ (hc.2.1 (.inl 88) j = 0 ∨ hc.2.1 (.inl 88) j = 1) ∧ (hc.2.1 (.inl 89) j = 0 ∨ hc.2.1 (.inl 89) j = 1)))
/-- entry j is of a piece; V: how stiff all were ahead of each entry -/
def rh_p (hc hr : mx_H) (S : Nat) (V : Nat → Nat → Nat → Int) (s j : Nat) : Prop := ∃ (k u v : Nat) (x y cb ca : Int), hc.2.1 (.inl 86) j = 4 ∧ rD hc (.inl 87) j = k ∧ (k : Int) < rD hc (.inr (s, 0)) 6 ∧ (u < 6 ∧ v < 6 ∧ u ≠ v) ∧ rD hc (.inr (s, 5)) k = ((min u v : Nat) : Int) ∧ rD hc (.inr (s, 6)) k = ((max u v : Nat) : Int) ∧ rD hr (.inl 124) j = ((36 * s + 6 * u + v : Nat) : Int) ∧
  rD hc (.inl 88) j = 10 * x + cb ∧ rD hc (.inl 89) j = 10 * y + ca ∧ (0 ≤ x ∧ x ≤ 9 ∧ 0 ≤ y ∧ y ≤ 9 ∧ 0 ≤ cb ∧ cb ≤ 9 ∧ 0 ≤ ca ∧ ca ≤ 9 ∧ cb ≤ x ∧ ca ≤ y) ∧ V j s k = x ∧ V (j + 1) s k = y ∧ (∀ s' k', s' < S → ¬ (s' = s ∧ k' = k) → V (j + 1) s' k' = V j s' k') ∧
  ((hr.2.1 (.inl 123) j = 3 ∧ rD hr (.inl 125) j = cb ∧ rD hr (.inl 126) j = ca ∧ x = y) ∨ (hr.2.1 (.inl 123) j = 4 ∧ rD hr (.inl 125) j = x ∧ rD hr (.inl 126) j = y ∧ rD hr (.inl 127) j = cb ∧ ca = min cb y))
def rh_e (hc hr : mx_H) (S : Nat) (V : Nat → Nat → Nat → Int) (j : Nat) : Prop := ∃ s, s < S ∧ hc.2.2.2 (.inl 85) j = some (.inr (s, 0)) ∧ ((rh_c hc hr s j ∧ ∀ s' k', s' < S → V (j + 1) s' k' = V j s' k') ∨ rh_p hc hr S V s j)
def rh_H (hc hr : mx_H) (S : Nat) (V : Nat → Nat → Nat → Int) (D U : Nat) : Prop := rD hc (.inl 84) 0 = D ∧ rD hc (.inl 84) 1 = U ∧ rD hr (.inl 105) 24 = D ∧ rD hr (.inl 105) 25 = U ∧ D + U ≤ 40 ∧ (∀ s k, s < S → V D s k = rD hc (.inr (s, 7)) k) ∧ ∀ j, j < D + U → rh_e hc hr S V j
/-- what entries read of shapes is as it was -/
def rh_s (S : Nat) (h g : mx_H) : Prop := ∀ s, s < S → g.2.1 (.inr (s, 0)) 6 = h.2.1 (.inr (s, 0)) 6 ∧ ∀ k, g.2.1 (.inr (s, 5)) k = h.2.1 (.inr (s, 5)) k ∧ g.2.1 (.inr (s, 6)) k = h.2.1 (.inr (s, 6)) k
theorem rh_e.x (p85 : gc.2.2.2 (.inl 85) j = hc.2.2.2 (.inl 85) (j + m)) (p : ∀ q, 86 ≤ q → q ≤ 89 → gc.2.1 (.inl q) j = hc.2.1 (.inl q) (j + m)) (r : ∀ q, 123 ≤ q → q ≤ 127 → gr.2.1 (.inl q) j = hr.2.1 (.inl q) (j + m)) (sc : rh_s S hc gc) (SS : S ≤ S')
    (v0 : ∀ s k, s < S → V' j s k = V (j + m) s k ∧ V' (j + 1) s k = V (j + m + 1) s k) (v1 : ∀ s k, S ≤ s → s < S' → V' (j + 1) s k = V' j s k) (e : rh_e hc hr S V (j + m)) : rh_e gc gr S' V' j := by
  obtain ⟨s, hs, e85, e⟩ := e
  obtain ⟨s6, s56⟩ := sc s hs
  refine ⟨s, by omega, p85.trans e85, ?_⟩
  rcases e with ⟨⟨o, c, q1, q2, q3, q4, q5, q6⟩, q7⟩ | ⟨k, u, v, x, y, cb, ca, q1, q2, q3, q4, q5, q6, q7, q8, q9, q10, q11, q12, q13, q14⟩
  · refine Or.inl ⟨⟨o, c, q1, ?_, ?_, ?_, ?_, ?_⟩, fun s' k' l => ?_⟩
    · unfold rD
      rw [p 87 (by decide +kernel) (by decide +kernel)]
      exact q2
    · unfold rD
      rw [r 124 (by decide +kernel) (by decide +kernel)]
      exact q3
    · rw [p 88 (by decide +kernel) (by decide +kernel), r 125 (by decide +kernel) (by decide +kernel)]
      exact q4
    · rw [p 89 (by decide +kernel) (by decide +kernel), r 126 (by decide +kernel) (by decide +kernel)]
      exact q5
    · rw [p 86 (by decide +kernel) (by decide +kernel), r 123 (by decide +kernel) (by decide +kernel), p 88 (by decide +kernel) (by decide +kernel), p 89 (by decide +kernel) (by decide +kernel)]
      exact q6
    · by_cases l' : s' < S
      · rw [(v0 s' k' l').1, (v0 s' k' l').2]
        exact q7 s' k' l'
      · exact v1 s' k' (by omega) l
  · refine Or.inr ⟨k, u, v, x, y, cb, ca, ?_, ?_, ?_, q4, ?_, ?_, ?_, ?_, ?_, q10, ?_, ?_, fun s' k' l t => ?_, ?_⟩
    · rw [p 86 (by decide +kernel) (by decide +kernel)]
      exact q1
    · unfold rD
      rw [p 87 (by decide +kernel) (by decide +kernel)]
      exact q2
    · unfold rD
      rw [s6]
      exact q3
    · unfold rD
      rw [(s56 k).1]
      exact q5
    · unfold rD
      rw [(s56 k).2]
      exact q6
    · unfold rD
      rw [r 124 (by decide +kernel) (by decide +kernel)]
      exact q7
    · unfold rD
      rw [p 88 (by decide +kernel) (by decide +kernel)]
      exact q8
    · unfold rD
      rw [p 89 (by decide +kernel) (by decide +kernel)]
      exact q9
    · rw [(v0 s k hs).1]
      exact q11
    · rw [(v0 s k hs).2]
      exact q12
    · by_cases l' : s' < S
      · rw [(v0 s' k' l').1, (v0 s' k' l').2]
        exact q13 s' k' l' t
      · exact v1 s' k' (by omega) l
    · unfold rD
      rw [r 123 (by decide +kernel) (by decide +kernel), r 125 (by decide +kernel) (by decide +kernel), r 126 (by decide +kernel) (by decide +kernel), r 127 (by decide +kernel) (by decide +kernel)]
      exact q14
/-- the histories are as they were; shapes may have come -/
theorem rh_H.new (H : rh_H hc hr S V D U) (SS : S ≤ S') (ec : ∀ s, s < S → rs_ec s hc gc) (p85 : ∀ i, gc.2.2.2 (.inl 85) i = hc.2.2.2 (.inl 85) i) (p : ∀ q i, 84 ≤ q → q ≤ 89 → (q = 84 → i = 0 ∨ i = 1) → q ≠ 85 → gc.2.1 (.inl q) i = hc.2.1 (.inl q) i) (r : ∀ q i, 123 ≤ q → q ≤ 127 → gr.2.1 (.inl q) i = hr.2.1 (.inl q) i)
    (r24 : gr.2.1 (.inl 105) 24 = hr.2.1 (.inl 105) 24) (r25 : gr.2.1 (.inl 105) 25 = hr.2.1 (.inl 105) 25) : ∃ V', rh_H gc gr S' V' D U := by
  obtain ⟨h1, h2, h3, h4, h5, h6, h7⟩ := H
  refine ⟨fun j s k => if s < S then V j s k else rD gc (.inr (s, 7)) k, ?_, ?_, ?_, ?_, h5, fun s k hs => ?_, fun j hj => ?_⟩
  · unfold rD
    rw [p 84 0 (by decide +kernel) (by decide +kernel) (by omega) (by decide +kernel)]
    exact h1
  · unfold rD
    rw [p 84 1 (by decide +kernel) (by decide +kernel) (by omega) (by decide +kernel)]
    exact h2
  · unfold rD
    rw [r24]
    exact h3
  · unfold rD
    rw [r25]
    exact h4
  · show (if s < S then V D s k else rD gc (.inr (s, 7)) k) = _
    by_cases l : s < S
    · rw [if_pos l, h6 s k l]
      unfold rD
      rw [ec s l 7 k (by omega)]
    · rw [if_neg l]
  · exact (rh_e.x (m := 0) (V := V) (p85 j) (fun q l1 l2 => p q j (by omega) l2 (by omega) (by omega)) (fun q l1 l2 => r q j l1 l2) (fun s l => ⟨ec s l 0 6 (by omega), fun k => ⟨ec s l 5 k (by omega), ec s l 6 k (by omega)⟩⟩) SS (fun s k l => ⟨if_pos l, if_pos l⟩) (fun s k l1 l2 => by
      show (if s < S then V (j + 1) s k else rD gc (.inr (s, 7)) k) = if s < S then V j s k else rD gc (.inr (s, 7)) k
      rw [if_neg (by omega), if_neg (by omega)]) (h7 j hj))
/-! an act more, on the class's side -/
def rh_fc (h g : mx_H) : Prop := g.1 = h.1 ∧ (∀ k i, k ≠ 85 → g.2.2.2 (.inl k) i = h.2.2.2 (.inl k) i) ∧ (∀ q i, g.2.1 (.inr q) i = h.2.1 (.inr q) i) ∧ ∀ k i, k < 84 ∨ 89 < k → g.2.1 (.inl k) i = h.2.1 (.inl k) i
def rh_fr (h g : mx_H) : Prop := g.1 = h.1 ∧ g.2.2 = h.2.2 ∧ (∀ q i, g.2.1 (.inr q) i = h.2.1 (.inr q) i) ∧ ∀ k i, ¬ (k = 105 ∧ (i = 24 ∨ i = 25)) → ¬ (123 ≤ k ∧ k ≤ 127) → g.2.1 (.inl k) i = h.2.1 (.inl k) i
theorem rh_fc.u (a : rh_fc h g) : rs_u S h g := ⟨a.1, a.2.1 0 3 (by decide +kernel), fun i => a.2.1 3 i (by decide +kernel), fun i => a.2.1 92 i (by decide +kernel), a.2.2.2 0 2 (by omega), a.2.2.2 90 0 (by omega), fun i => a.2.2.2 91 i (by omega), fun s _ o i _ => a.2.2.1 (s, o) i⟩
theorem rh_fr.v (a : rh_fr h g) : rs_v S h g := ⟨a.2.2.2 105 1 (by omega) (by omega), a.2.2.2 105 12 (by omega) (by omega), fun i => a.2.2.2 116 i (by omega) (by omega), fun i => a.2.2.2 117 i (by omega) (by omega), fun s _ k i w => by
  unfold rs_w at w
  exact a.2.2.2 k i (by omega) (by omega)⟩
def ka_C (h g : mx_H) (s : Nat) (a2 a3 a4 a5 : Int32) (E m : Nat) : Prop := rh_fc h g ∧ rD g (.inl 84) 0 = ((E + 1 : Nat) : Int) ∧ rD g (.inl 84) 1 = 0 ∧ (∀ j, j < E → g.2.2.2 (.inl 85) j = h.2.2.2 (.inl 85) (j + m) ∧ ∀ q, 86 ≤ q → q ≤ 89 → g.2.1 (.inl q) j = h.2.1 (.inl q) (j + m)) ∧
  g.2.2.2 (.inl 85) E = some (.inr (s, 0)) ∧ g.2.1 (.inl 86) E = a2 ∧ g.2.1 (.inl 87) E = a3 ∧ g.2.1 (.inl 88) E = a4 ∧ g.2.1 (.inl 89) E = a5
def k_17 (h : mx_H) (E s : Nat) (a2 a3 a4 a5 : Int32) : mx_H := mx_uI (mx_uI (mx_uI (mx_uI (mx_uI (mx_uI (mx_uR h (.inl 85) E (some (.inr (s, 0)))) (.inl 86) E a2) (.inl 87) E a3) (.inl 88) E a4) (.inl 89) E a5) (.inl 84) 0 (h.2.1 (.inl 84) 0 + 1)) (.inl 84) 1 0
theorem C17a : g17_13 s a2 a3 a4 a5 h = k_17 h (Int32.toNatClampNeg (h.2.1 (.inl 84) 0)) s a2 a3 a4 a5 := by
  rw [g17_13_eq]
  rfl
theorem k_17o {q : Nat} (w : q < 84 ∨ 89 < q) : (k_17 h E s a2 a3 a4 a5).2.1 (.inl q) i = h.2.1 (.inl q) i := by
  unfold k_17
  rw [rN (by omega), rN (by omega), rN (by omega), rN (by omega), rN (by omega), rN (by omega)]
  rfl
theorem k_17q {q : Nat} (ne : i ≠ E) (l1 : 86 ≤ q) (l2 : q ≤ 89) : (k_17 h E s a2 a3 a4 a5).2.1 (.inl q) i = h.2.1 (.inl q) i := by
  unfold k_17
  rw [rN (by omega), rN (by omega), rI_i ne, rI_i ne, rI_i ne, rI_i ne]
  rfl
theorem k_17r {q : Nat} (ne : ¬ (q = 85 ∧ i = E)) : (k_17 h E s a2 a3 a4 a5).2.2.2 (.inl q) i = h.2.2.2 (.inl q) i := by
  show (mx_uR h (.inl 85) E (some (.inr (s, 0)))).2.2.2 (.inl q) i = _
  rw [rR, if_neg (fun z => ne ⟨Sum.inl.inj z.1, z.2⟩)]
theorem ka_C.mk0 (hD : rD h (.inl 84) 0 = E) (E40 : E < 40) : ka_C h (g17_13 s a2 a3 a4 a5 h) s a2 a3 a4 a5 E 0 := by
  rw [C17a, i_cl hD]
  refine ⟨⟨rfl, fun k i q => k_17r (fun t => q t.1), fun _ _ => rfl, fun k i q => k_17o q⟩, ?_, rfl, fun j hj => ⟨k_17r (by omega), fun q l1 l2 => k_17q (by omega) l1 l2⟩, ?_, ?_, ?_, ?_, ?_⟩
  · show (h.2.1 (.inl 84) 0 + 1).toInt = _
    exact (i_add hD k_1 (by omega) (by omega)).trans (by omega)
  · show (mx_uR h (.inl 85) E (some (.inr (s, 0)))).2.2.2 (.inl 85) E = _
    rw [rR, if_pos ⟨rfl, rfl⟩]
  · show (mx_uI (mx_uR h (.inl 85) E (some (.inr (s, 0)))) (.inl 86) E a2).2.1 (.inl 86) E = _
    exact rI_s
  · show (mx_uI (mx_uI (mx_uR h (.inl 85) E (some (.inr (s, 0)))) (.inl 86) E a2) (.inl 87) E a3).2.1 (.inl 87) E = _
    exact rI_s
  · show (mx_uI (mx_uI (mx_uI (mx_uR h (.inl 85) E (some (.inr (s, 0)))) (.inl 86) E a2) (.inl 87) E a3) (.inl 88) E a4).2.1 (.inl 88) E = _
    exact rI_s
  · show (mx_uI (mx_uI (mx_uI (mx_uI (mx_uR h (.inl 85) E (some (.inr (s, 0)))) (.inl 86) E a2) (.inl 87) E a3) (.inl 88) E a4) (.inl 89) E a5).2.1 (.inl 89) E = _
    exact rI_s
/-- the oldest goes -/
def k_18 (g : mx_H) (k t : Nat) : mx_H := mx_uI (mx_uI (mx_uI (mx_uI (mx_uR g (.inl 85) (k - 1) (some (.inr (t, 0)))) (.inl 86) (k - 1) (g.2.1 (.inl 86) k)) (.inl 87) (k - 1) (g.2.1 (.inl 87) k)) (.inl 88) (k - 1) (g.2.1 (.inl 88) k)) (.inl 89) (k - 1) (g.2.1 (.inl 89) k)
theorem k_18o {q t : Nat} (w : q < 86 ∨ 89 < q) : (k_18 g k t).2.1 (.inl q) i = g.2.1 (.inl q) i := by
  unfold k_18
  rw [rN (by omega), rN (by omega), rN (by omega), rN (by omega)]
  rfl
theorem k_18q {q t : Nat} (l1 : 86 ≤ q) (l2 : q ≤ 89) : (k_18 g k t).2.1 (.inl q) i = if i = k - 1 then g.2.1 (.inl q) k else g.2.1 (.inl q) i := by
  unfold k_18
  by_cases e : i = k - 1
  · rw [if_pos e]
    rcases (show q = 86 ∨ q = 87 ∨ q = 88 ∨ q = 89 by omega) with w | w | w | w
    · subst w
      rw [rN (by decide +kernel), rN (by decide +kernel), rN (by decide +kernel), rI_c rfl e]
    · subst w
      rw [rN (by decide +kernel), rN (by decide +kernel), rI_c rfl e]
    · subst w
      rw [rN (by decide +kernel), rI_c rfl e]
    · subst w
      rw [rI_c rfl e]
  · rw [if_neg e, rI_i e, rI_i e, rI_i e, rI_i e]
    rfl
theorem k_18r {q t : Nat} : (k_18 g k t).2.2.2 (.inl q) i = if q = 85 ∧ i = k - 1 then some (.inr (t, 0)) else g.2.2.2 (.inl q) i := by
  show (mx_uR g (.inl 85) (k - 1) (some (.inr (t, 0)))).2.2.2 (.inl q) i = _
  rw [rR]
  by_cases e : q = 85 ∧ i = k - 1
  · rw [if_pos e, if_pos ⟨by rw [e.1], e.2⟩]
  · rw [if_neg e, if_neg (fun z => e ⟨Sum.inl.inj z.1, z.2⟩)]
theorem C18s {t : Nat} (ha : a1.toInt = (k : Int)) (k1 : 1 ≤ k) (k40 : k < 40) (e : g.2.2.2 (.inl 85) k = some (.inr (t, 0))) : g18_2 a1 g = g18_2 (a1 + 1) (k_18 g k t) := by
  have hb : (a1 - 1).toInt = ((k - 1 : Nat) : Int) := (i_sub ha k_1 (by omega) (by omega)).trans (by omega)
  rw [g18_2_eq, if_neg (i_nle ivt_40 ha (by omega)), i_cl ha, i_cl hb, x_opt_s e]
  rfl
def k_18I (h g : mx_H) (k : Nat) : Prop := rh_fc h g ∧ (∀ i, g.2.1 (.inl 84) i = h.2.1 (.inl 84) i) ∧ (∀ j, j + 1 < k → g.2.2.2 (.inl 85) j = h.2.2.2 (.inl 85) (j + 1) ∧ ∀ q, 86 ≤ q → q ≤ 89 → g.2.1 (.inl q) j = h.2.1 (.inl q) (j + 1)) ∧ ∀ j, k ≤ j + 1 → g.2.2.2 (.inl 85) j = h.2.2.2 (.inl 85) j ∧ ∀ q, 86 ≤ q → q ≤ 89 → g.2.1 (.inl q) j = h.2.1 (.inl q) j
theorem C18g (R : ∀ j, j < 40 → ∃ t, h.2.2.2 (.inl 85) j = some (.inr (t, 0))) : ∀ (n k : Nat) (a1 : Int32) {g : mx_H}, k + n = 40 → 1 ≤ k → a1.toInt = (k : Int) → k_18I h g k → ∃ g', g18_2 a1 g = mx_uI g' (.inl 84) 0 39 ∧ k_18I h g' 40
  | 0, k, a1, g, e, k1, ha, I => ⟨g, by rw [g18_2_eq, if_pos (i_le ivt_40 ha (by omega))], (show k = 40 by omega) ▸ I⟩
  | n + 1, k, a1, g, e, k1, ha, I => by
    obtain ⟨i1, i2, i3, i4⟩ := I
    obtain ⟨t, ht⟩ := R k (by omega)
    have hk := i4 k (by omega)
    rw [C18s ha k1 (by omega) (hk.1.trans ht)]
    refine C18g R n (k + 1) (a1 + 1) (by omega) (by omega) ((i_add ha k_1 (by omega) (by omega)).trans (by omega)) ⟨⟨i1.1, fun q i w => ?_, fun q i => i1.2.2.1 q i, fun q i w => ?_⟩, fun i => ?_, fun j hj => ⟨?_, fun q l1 l2 => ?_⟩, fun j hj => ⟨?_, fun q l1 l2 => ?_⟩⟩
    · rw [k_18r, if_neg (fun z => w z.1)]
      exact i1.2.1 q i w
    · rw [k_18o (by omega)]
      exact i1.2.2.2 q i w
    · rw [k_18o (by omega)]
      exact i2 i
    · rw [k_18r]
      by_cases w : j = k - 1
      · rw [if_pos ⟨rfl, w⟩, show j + 1 = k by omega, ht]
      · rw [if_neg (fun z => w z.2)]
        exact (i3 j (by omega)).1
    · rw [k_18q l1 l2]
      by_cases w : j = k - 1
      · rw [if_pos w, show j + 1 = k by omega]
        exact hk.2 q l1 l2
      · rw [if_neg w]
        exact (i3 j (by omega)).2 q l1 l2
    · rw [k_18r, if_neg (by omega)]
      exact (i4 j (by omega)).1
    · rw [k_18q l1 l2, if_neg (by omega)]
      exact (i4 j (by omega)).2 q l1 l2
theorem C17 (hD : rD h (.inl 84) 0 = D) (D40 : D ≤ 40) (R : ∀ j, j < D → ∃ t, h.2.2.2 (.inl 85) j = some (.inr (t, 0))) : (D < 40 ∧ ka_C h (f17 s a2 a3 a4 a5 h) s a2 a3 a4 a5 D 0) ∨ (D = 40 ∧ ka_C h (f17 s a2 a3 a4 a5 h) s a2 a3 a4 a5 39 1) := by
  rw [f17_eq]
  by_cases c : D < 40
  · rw [if_pos (i_lt hD ivt_40 (by omega))]
    exact Or.inl ⟨c, ka_C.mk0 hD c⟩
  · rw [if_neg (i_nlt hD ivt_40 (by omega))]
    refine Or.inr ⟨by omega, ?_⟩
    obtain ⟨g, e, ⟨i1, i2, i3, i4⟩⟩ := C18g (h := h) (fun j hj => R j (by omega)) 39 1 1 (g := h) (by omega) (by omega) rfl ⟨⟨rfl, fun _ _ _ => rfl, fun _ _ => rfl, fun _ _ _ => rfl⟩, fun _ => rfl, fun j hj => by omega, fun j _ => ⟨rfl, fun _ _ _ => rfl⟩⟩
    show ka_C h (g17_13 s a2 a3 a4 a5 (f18 h)) s a2 a3 a4 a5 39 1
    rw [f18_eq, e]
    obtain ⟨k1, k2, k3, k4, k5, k6, k7, k8, k9⟩ := ka_C.mk0 (h := mx_uI g (.inl 84) 0 39) (s := s) (a2 := a2) (a3 := a3) (a4 := a4) (a5 := a5) (E := 39) rfl (by omega)
    refine ⟨⟨k1.1.trans i1.1, fun q i w => (k1.2.1 q i w).trans (i1.2.1 q i w), fun q i => (k1.2.2.1 q i).trans (i1.2.2.1 q i), fun q i w => (k1.2.2.2 q i w).trans ?_⟩, k2, k3, fun j hj => ⟨(k4 j hj).1.trans (i3 j (by omega)).1, fun q l1 l2 => ((k4 j hj).2 q l1 l2).trans ?_⟩, k5, k6, k7, k8, k9⟩
    · rw [rN (by omega)]
      exact i1.2.2.2 q i w
    · rw [rN (by omega)]
      exact (i3 j (by omega)).2 q l1 l2
/-! an act more, on the reference's side -/
def ka_R (h g : mx_H) (a1 a2 a3 a4 a5 : Int32) (E m : Nat) : Prop := rh_fr h g ∧ rD g (.inl 105) 24 = ((E + 1 : Nat) : Int) ∧ rD g (.inl 105) 25 = 0 ∧ (∀ j, j < E → ∀ q, 123 ≤ q → q ≤ 127 → g.2.1 (.inl q) j = h.2.1 (.inl q) (j + m)) ∧ g.2.1 (.inl 123) E = a1 ∧ g.2.1 (.inl 124) E = a2 ∧ g.2.1 (.inl 125) E = a3 ∧ g.2.1 (.inl 126) E = a4 ∧ g.2.1 (.inl 127) E = a5
def r_19 (h : mx_H) (E : Nat) (a1 a2 a3 a4 a5 : Int32) : mx_H := mx_uI (mx_uI (mx_uI (mx_uI (mx_uI (mx_uI h (.inl 123) E a1) (.inl 124) E a2) (.inl 125) E a3) (.inl 126) E a4) (.inl 127) E a5) (.inl 105) 24 (h.2.1 (.inl 105) 24 + 1)
theorem R198a : g198_120 a1 a2 a3 a4 a5 h = r_19 h (Int32.toNatClampNeg (h.2.1 (.inl 105) 24)) a1 a2 a3 a4 a5 := by
  rw [g198_120_eq]
  rfl
theorem r_19o {q : Nat} (w1 : ¬ (q = 105 ∧ i = 24)) (w2 : ¬ (123 ≤ q ∧ q ≤ 127)) : (r_19 h E a1 a2 a3 a4 a5).2.1 (.inl q) i = h.2.1 (.inl q) i := by
  unfold r_19
  rw [show ∀ (H : mx_H) (v : Int32), (mx_uI H (.inl 105) 24 v).2.1 (.inl q) i = H.2.1 (.inl q) i from fun H v => if_neg (fun z => w1 ⟨Sum.inl.inj z.1, z.2⟩), rN (by omega), rN (by omega), rN (by omega), rN (by omega), rN (by omega)]
theorem r_19q {q : Nat} (ne : i ≠ E) (l1 : 123 ≤ q) (l2 : q ≤ 127) : (r_19 h E a1 a2 a3 a4 a5).2.1 (.inl q) i = h.2.1 (.inl q) i := by
  unfold r_19
  rw [rN (by omega), rI_i ne, rI_i ne, rI_i ne, rI_i ne, rI_i ne]
theorem ka_R.mk0 (hD : rD h (.inl 105) 24 = E) (hU : rD h (.inl 105) 25 = 0) (E40 : E < 40) : ka_R h (g198_120 a1 a2 a3 a4 a5 h) a1 a2 a3 a4 a5 E 0 := by
  rw [R198a, i_cl hD]
  refine ⟨⟨rfl, rfl, fun _ _ => rfl, fun k i q w => r_19o (fun t => q ⟨t.1, Or.inl t.2⟩) w⟩, ?_, ?_, fun j hj q l1 l2 => r_19q (by omega) l1 l2, ?_, ?_, ?_, ?_, ?_⟩
  · show (h.2.1 (.inl 105) 24 + 1).toInt = _
    exact (i_add hD k_1 (by omega) (by omega)).trans (by omega)
  · unfold rD
    rw [r_19o (by omega) (by omega)]
    exact hU
  · show (mx_uI h (.inl 123) E a1).2.1 (.inl 123) E = _
    exact rI_s
  · show (mx_uI (mx_uI h (.inl 123) E a1) (.inl 124) E a2).2.1 (.inl 124) E = _
    exact rI_s
  · show (mx_uI (mx_uI (mx_uI h (.inl 123) E a1) (.inl 124) E a2) (.inl 125) E a3).2.1 (.inl 125) E = _
    exact rI_s
  · show (mx_uI (mx_uI (mx_uI (mx_uI h (.inl 123) E a1) (.inl 124) E a2) (.inl 125) E a3) (.inl 126) E a4).2.1 (.inl 126) E = _
    exact rI_s
  · show (mx_uI (mx_uI (mx_uI (mx_uI (mx_uI h (.inl 123) E a1) (.inl 124) E a2) (.inl 125) E a3) (.inl 126) E a4) (.inl 127) E a5).2.1 (.inl 127) E = _
    exact rI_s
def r_17 (g : mx_H) (k : Nat) : mx_H := mx_uI (mx_uI (mx_uI (mx_uI (mx_uI g (.inl 123) (k - 1) (g.2.1 (.inl 123) k)) (.inl 124) (k - 1) (g.2.1 (.inl 124) k)) (.inl 125) (k - 1) (g.2.1 (.inl 125) k)) (.inl 126) (k - 1) (g.2.1 (.inl 126) k)) (.inl 127) (k - 1) (g.2.1 (.inl 127) k)
theorem r_17o {q : Nat} (w : q < 123 ∨ 127 < q) : (r_17 g k).2.1 (.inl q) i = g.2.1 (.inl q) i := by
  unfold r_17
  rw [rN (by omega), rN (by omega), rN (by omega), rN (by omega), rN (by omega)]
theorem r_17q {q : Nat} (l1 : 123 ≤ q) (l2 : q ≤ 127) : (r_17 g k).2.1 (.inl q) i = if i = k - 1 then g.2.1 (.inl q) k else g.2.1 (.inl q) i := by
  unfold r_17
  by_cases e : i = k - 1
  · rw [if_pos e]
    rcases (show q = 123 ∨ q = 124 ∨ q = 125 ∨ q = 126 ∨ q = 127 by omega) with w | w | w | w | w
    · subst w
      rw [rN (by decide +kernel), rN (by decide +kernel), rN (by decide +kernel), rN (by decide +kernel), rI_c rfl e]
    · subst w
      rw [rN (by decide +kernel), rN (by decide +kernel), rN (by decide +kernel), rI_c rfl e]
    · subst w
      rw [rN (by decide +kernel), rN (by decide +kernel), rI_c rfl e]
    · subst w
      rw [rN (by decide +kernel), rI_c rfl e]
    · subst w
      rw [rI_c rfl e]
  · rw [if_neg e, rI_i e, rI_i e, rI_i e, rI_i e, rI_i e]
theorem R17s {a6 : Int32} (ha : a6.toInt = (k : Int)) (k1 : 1 ≤ k) (k40 : k < 40) : g198_17 a1 a2 a3 a4 a5 a6 g = g198_17 a1 a2 a3 a4 a5 (a6 + 1) (r_17 g k) := by
  have hb : (a6 - 1).toInt = ((k - 1 : Nat) : Int) := (i_sub ha k_1 (by omega) (by omega)).trans (by omega)
  rw [g198_17_eq, if_neg (i_nle ivt_40 ha (by omega)), i_cl ha, i_cl hb]
  rfl
def r_17I (h g : mx_H) (k : Nat) : Prop := rh_fr h g ∧ (∀ i, g.2.1 (.inl 105) i = h.2.1 (.inl 105) i) ∧ (∀ j, j + 1 < k → ∀ q, 123 ≤ q → q ≤ 127 → g.2.1 (.inl q) j = h.2.1 (.inl q) (j + 1)) ∧ ∀ j, k ≤ j + 1 → ∀ q, 123 ≤ q → q ≤ 127 → g.2.1 (.inl q) j = h.2.1 (.inl q) j
theorem R17g : ∀ (n k : Nat) (a6 : Int32) {g : mx_H}, k + n = 40 → 1 ≤ k → a6.toInt = (k : Int) → r_17I h g k → ∃ g', g198_17 a1 a2 a3 a4 a5 a6 g = g198_120 a1 a2 a3 a4 a5 (mx_uI g' (.inl 105) 24 (g'.2.1 (.inl 105) 24 - 1)) ∧ r_17I h g' 40
  | 0, k, a6, g, e, k1, ha, I => ⟨g, by rw [g198_17_eq, if_pos (i_le ivt_40 ha (by omega))], (show k = 40 by omega) ▸ I⟩
  | n + 1, k, a6, g, e, k1, ha, I => by
    obtain ⟨i1, i2, i3, i4⟩ := I
    have hk := i4 k (by omega)
    rw [R17s ha k1 (by omega)]
    refine R17g n (k + 1) (a6 + 1) (by omega) (by omega) ((i_add ha k_1 (by omega) (by omega)).trans (by omega)) ⟨⟨i1.1, i1.2.1, fun q i => i1.2.2.1 q i, fun q i w1 w2 => ?_⟩, fun i => ?_, fun j hj q l1 l2 => ?_, fun j hj q l1 l2 => ?_⟩
    · rw [r_17o (by omega)]
      exact i1.2.2.2 q i w1 w2
    · rw [r_17o (by omega)]
      exact i2 i
    · rw [r_17q l1 l2]
      by_cases w : j = k - 1
      · rw [if_pos w, show j + 1 = k by omega]
        exact hk q l1 l2
      · rw [if_neg w]
        exact i3 j (by omega) q l1 l2
    · rw [r_17q l1 l2, if_neg (by omega)]
      exact i4 j (by omega) q l1 l2
theorem R198 (hD : rD h (.inl 105) 24 = D) (D40 : D ≤ 40) : (D < 40 ∧ ka_R h (f198 a1 a2 a3 a4 a5 h) a1 a2 a3 a4 a5 D 0) ∨ (D = 40 ∧ ka_R h (f198 a1 a2 a3 a4 a5 h) a1 a2 a3 a4 a5 39 1) := by
  rw [f198_eq]
  have hD' : rD (mx_uI h (.inl 105) 25 0) (.inl 105) 24 = D := hD
  have fo : ∀ q i, ¬ (q = 105 ∧ i = 25) → (mx_uI h (.inl 105) 25 0).2.1 (.inl q) i = h.2.1 (.inl q) i := fun q i w => if_neg (fun z => w ⟨Sum.inl.inj z.1, z.2⟩)
  by_cases c : D < 40
  · rw [if_pos (show _ ≠ _ from i_ne hD' ivt_40 (by omega))]
    refine Or.inl ⟨c, ?_⟩
    obtain ⟨k1, k2, k3, k4, k5⟩ := ka_R.mk0 (h := mx_uI h (.inl 105) 25 0) (a1 := a1) (a2 := a2) (a3 := a3) (a4 := a4) (a5 := a5) (E := D) hD' rfl c
    exact ⟨⟨k1.1, k1.2.1, k1.2.2.1, fun q i w1 w2 => (k1.2.2.2 q i w1 w2).trans (fo q i (fun t => w1 ⟨t.1, Or.inr t.2⟩))⟩, k2, k3, fun j hj q l1 l2 => (k4 j hj q l1 l2).trans (fo q _ (by omega)), k5⟩
  · rw [if_neg (fun t => t (i_eq hD' ivt_40 (by omega)))]
    refine Or.inr ⟨by omega, ?_⟩
    obtain ⟨g, e, ⟨i1, i2, i3, i4⟩⟩ := R17g (a1 := a1) (a2 := a2) (a3 := a3) (a4 := a4) (a5 := a5) (h := mx_uI h (.inl 105) 25 0) 39 1 1 (g := mx_uI h (.inl 105) 25 0) (by omega) (by omega) rfl ⟨⟨rfl, rfl, fun _ _ => rfl, fun _ _ _ _ => rfl⟩, fun _ => rfl, fun j hj => by omega, fun j _ _ _ _ => rfl⟩
    rw [e]
    have g24 : rD g (.inl 105) 24 = 40 := by
      unfold rD
      rw [i2 24]
      exact (show (h.2.1 (.inl 105) 24).toInt = _ from hD).trans (by omega)
    have hE : rD (mx_uI g (.inl 105) 24 (g.2.1 (.inl 105) 24 - 1)) (.inl 105) 24 = ((39 : Nat) : Int) := by
      unfold rD
      rw [rI_s]
      exact i_sub g24 k_1 (by omega) (by omega)
    have hU : rD (mx_uI g (.inl 105) 24 (g.2.1 (.inl 105) 24 - 1)) (.inl 105) 25 = 0 := by
      unfold rD
      rw [rI_i (by decide +kernel), i2 25]
      rfl
    obtain ⟨k1, k2, k3, k4, k5⟩ := ka_R.mk0 (a1 := a1) (a2 := a2) (a3 := a3) (a4 := a4) (a5 := a5) hE hU (by omega)
    refine ⟨⟨k1.1.trans i1.1, k1.2.1.trans i1.2.1, fun q i => (k1.2.2.1 q i).trans (i1.2.2.1 q i), fun q i w1 w2 => (k1.2.2.2 q i w1 w2).trans ?_⟩, k2, k3, fun j hj q l1 l2 => (k4 j hj q l1 l2).trans ?_, k5⟩
    · rw [show (mx_uI g (.inl 105) 24 (g.2.1 (.inl 105) 24 - 1)).2.1 (.inl q) i = g.2.1 (.inl q) i from if_neg (fun z => w1 ⟨Sum.inl.inj z.1, Or.inl z.2⟩), i1.2.2.2 q i w1 w2]
      exact fo q i (fun t => w1 ⟨t.1, Or.inr t.2⟩)
    · rw [rN (by omega), Nat.add_zero, i3 j (by omega) q l1 l2]
      exact fo q _ (by omega)
end RDD
/-! ===== one thing is set, on both sides ===== -/
section REE
variable {h h' g hc hr gc gr : mx_H} {S N s i j n m k c C F u v o D U E : Nat} {a a1 a2 a3 a4 a5 x y d e : Int32} {V : Nat → Nat → Nat → Int}
theorem rs_A.corner (A : rs_A hc hr S N) (hs : s < S) (o1 : 1 ≤ o) (o4 : o ≤ 4) (c6 : c < 6) : rs_A (mx_uI hc (.inr (s, o)) c x) (mx_uI hr (.inl (106 + o)) (6 * s + c) x) S N := by
  obtain ⟨A1, A2, A3, A4, A5, A6, A7, A8, A9, A10⟩ := A
  have rl : ∀ q i, ¬ (q = 106 + o ∧ i = 6 * s + c) → (mx_uI hr (.inl (106 + o)) (6 * s + c) x).2.1 (.inl q) i = hr.2.1 (.inl q) i := fun q i w => if_neg (fun z => w ⟨Sum.inl.inj z.1, z.2⟩)
  have cl : ∀ t p i, ¬ (t = s ∧ p = o ∧ i = c) → (mx_uI hc (.inr (s, o)) c x).2.1 (.inr (t, p)) i = hc.2.1 (.inr (t, p)) i := fun t p i w => if_neg (fun z => by
    have z1 := z.1
    have z2 := z.2
    cases z1
    exact w ⟨rfl, rfl, z2⟩)
  refine ⟨A1, A2, A3, ?_, A5, ?_, A7, A8, fun t ht => ⟨(A9 t ht).1, ?_⟩, fun b hb => ?_⟩
  · unfold rD
    rw [rl 105 1 (by omega)]
    exact A4
  · unfold rD
    rw [rl 105 12 (by omega)]
    exact A6
  · obtain ⟨C, n, F, Dt⟩ := (A9 t ht).2
    refine ⟨C, n, F, ?_⟩
    by_cases ts : t = s
    · subst ts
      obtain ⟨d1, d2, d3, d4, d5, d6, d7, d8, d9, d10, d11, d12, d13⟩ := Dt
      have kx : ∀ k u v, rs_k hc hr t C F k u v → rs_k (mx_uI hc (.inr (t, o)) c x) (mx_uI hr (.inl (106 + o)) (6 * t + c) x) t C F k u v := fun k u v Q => by
        obtain ⟨q1, q2, q3, q4, q5, q6, q7, q8, q9, q10, q11, q12⟩ := Q
        unfold rs_k rD
        rw [cl t 5 k (by omega), cl t 6 k (by omega), cl t 7 k (by omega), cl t 8 k (by omega), rl 113 (36 * t + 6 * u + v) (by omega), rl 113 (36 * t + 6 * v + u) (by omega), rl 111 (36 * t + 6 * u + v) (by omega), rl 111 (36 * t + 6 * v + u) (by omega), rl 112 (36 * t + 6 * u + v) (by omega), rl 112 (36 * t + 6 * v + u) (by omega), rl 117 (F + k) (by omega)]
        exact ⟨q1, q2, q3, q4, q5, q6, q7, q8, q9, q10, q11, q12⟩
      refine ⟨d1, d2, d3, ?_, ?_, ?_, ?_, fun i hi => ?_, ?_, fun k hk => ?_, fun u v hu hv => ?_, ?_, d13⟩
      · unfold rD
        rw [cl t 0 0 (by omega)]
        exact d4
      · unfold rD
        rw [rl 106 t (by omega)]
        exact d5
      · unfold rD
        rw [cl t 0 6 (by omega)]
        exact d6
      · unfold rD
        rw [cl t 0 5 (by omega)]
        exact d7
      · have cx : ∀ p, 1 ≤ p → p ≤ 4 → hc.2.1 (.inr (t, p)) i = hr.2.1 (.inl (106 + p)) (6 * t + i) → (mx_uI hc (.inr (t, o)) c x).2.1 (.inr (t, p)) i = (mx_uI hr (.inl (106 + o)) (6 * t + c) x).2.1 (.inl (106 + p)) (6 * t + i) := fun p p1 p4 q => by
          by_cases w : p = o ∧ i = c
          · rw [w.1, w.2, rI_s, rI_s]
          · rw [cl t p i (by omega), rl (106 + p) (6 * t + i) (by omega)]
            exact q
        obtain ⟨b1, b2, b3, b4⟩ := d8 i hi
        exact ⟨cx 1 (by omega) (by omega) b1, cx 2 (by omega) (by omega) b2, cx 3 (by omega) (by omega) b3, cx 4 (by omega) (by omega) b4⟩
      · rw [cl t 0 11 (by omega), cl t 0 12 (by omega), rl 114 t (by omega), rl 115 t (by omega)]
        exact d9
      · obtain ⟨u, v, Q⟩ := d10 k hk
        exact ⟨u, v, kx k u v Q⟩
      · rw [rl 113 (36 * t + 6 * u + v) (by omega)]
        rcases d11 u v hu hv with z | ⟨k, p1, p2⟩
        · exact Or.inl z
        · refine Or.inr ⟨k, p1, ?_⟩
          rcases p2 with p2 | p2
          · exact Or.inl (kx _ _ _ p2)
          · exact Or.inr (kx _ _ _ p2)
      · refine d12.trans ?_
        unfold sd_C
        congr 1
        refine List.filter_congr (fun c' _ => ?_)
        unfold rz_g
        rw [rl 113 (36 * t + c') (by omega)]
    · refine Dt.x (Nat.le_refl _) (fun p i _ => cl t p i (by omega)) (fun q i w => ?_) (fun i _ => ⟨rl 117 i (by omega), rfl⟩)
      unfold rs_w at w
      exact rl q i (by omega)
  · rw [rl 116 b (by omega), rl 117 b (by omega)]
    obtain ⟨b1, b2⟩ := A10 b hb
    refine ⟨b1, ?_⟩
    rcases b2 with q | ⟨t, k, q1, q2, q3⟩
    · exact Or.inl q
    · refine Or.inr ⟨t, k, q1, ?_, ?_⟩
      · unfold rD
        rw [cl t 0 6 (by omega)]
        exact q2
      · unfold rD
        rw [cl t 0 5 (by omega)]
        exact q3
/-- the reference's piece is set -/
def rp_w (h g : mx_H) (s u v : Nat) (d e : Int32) : Prop := g.1 = h.1 ∧ g.2.2 = h.2.2 ∧ (∀ q i, g.2.1 (.inr q) i = h.2.1 (.inr q) i) ∧ (∀ i, g.2.1 (.inl 111) i = if i = 36 * s + 6 * v + u then d else if i = 36 * s + 6 * u + v then d else h.2.1 (.inl 111) i) ∧ (∀ i, g.2.1 (.inl 112) i = if i = 36 * s + 6 * v + u then e else if i = 36 * s + 6 * u + v then e else h.2.1 (.inl 112) i) ∧ ∀ q i, q ≠ 111 → q ≠ 112 → g.2.1 (.inl q) i = h.2.1 (.inl q) i
theorem rp_w.sy (w : rp_w h g s u v d e) (ne : u ≠ v) : rp_w h g s v u d e := by
  obtain ⟨w1, w2, w3, w4, w5, w6⟩ := w
  refine ⟨w1, w2, w3, fun i => ?_, fun i => ?_, w6⟩
  · rw [w4]
    by_cases e1 : i = 36 * s + 6 * v + u
    · rw [if_pos e1, if_pos e1]
      by_cases e2 : i = 36 * s + 6 * u + v
      · rw [if_pos e2]
      · rw [if_neg e2]
    · rw [if_neg e1, if_neg e1]
  · rw [w5]
    by_cases e1 : i = 36 * s + 6 * v + u
    · rw [if_pos e1, if_pos e1]
      by_cases e2 : i = 36 * s + 6 * u + v
      · rw [if_pos e2]
      · rw [if_neg e2]
    · rw [if_neg e1, if_neg e1]
set_option maxHeartbeats 4000000 in
theorem rs_A.piece (A : rs_A hc hr S N) (hs : s < S) (Ds : rs_D hc hr N s C n F) (hk : k < n) (Q : rs_k hc hr s C F k u v) (w : rp_w hr gr s u v d e) (hde : e.toInt ≤ d.toInt) : rs_A (mx_uI (mx_uI hc (.inr (s, 7)) k d) (.inr (s, 8)) k e) gr S N := by
  obtain ⟨A1, A2, A3, A4, A5, A6, A7, A8, A9, A10⟩ := A
  obtain ⟨w1, w2, w3, w4, w5, w6⟩ := w
  have C6 := Ds.2.1
  have Qu := Q.1
  have Qv := Q.2.1
  have Qn := Q.2.2.1
  have Q6 := Q.2.2.2.2.2.1
  have Q7 := Q.2.2.2.2.2.2.1
  have cl : ∀ t p i, ¬ (t = s ∧ (p = 7 ∨ p = 8) ∧ i = k) → (mx_uI (mx_uI hc (.inr (s, 7)) k d) (.inr (s, 8)) k e).2.1 (.inr (t, p)) i = hc.2.1 (.inr (t, p)) i := fun t p i w => (if_neg (fun z => by
    have z1 := z.1
    have z2 := z.2
    cases z1
    exact w ⟨rfl, Or.inr rfl, z2⟩)).trans (if_neg (fun z => by
    have z1 := z.1
    have z2 := z.2
    cases z1
    exact w ⟨rfl, Or.inl rfl, z2⟩))
  have c7 : (mx_uI (mx_uI hc (.inr (s, 7)) k d) (.inr (s, 8)) k e).2.1 (.inr (s, 7)) k = d := by rw [rS (by decide +kernel), rI_s]
  have c8 : (mx_uI (mx_uI hc (.inr (s, 7)) k d) (.inr (s, 8)) k e).2.1 (.inr (s, 8)) k = e := rI_s
  refine ⟨A1, A2, A3, ?_, A5, ?_, A7, A8, fun t ht => ⟨(A9 t ht).1, ?_⟩, fun b hb => ?_⟩
  · unfold rD
    rw [w6 105 1 (by decide +kernel) (by decide +kernel)]
    exact A4
  · unfold rD
    rw [w6 105 12 (by decide +kernel) (by decide +kernel)]
    exact A6
  · by_cases ts : t = s
    · subst ts
      refine ⟨C, n, F, ?_⟩
      obtain ⟨d1, d2, d3, d4, d5, d6, d7, d8, d9, d10, d11, d12, d13⟩ := Ds
      have kx : ∀ k' u' v', rs_k hc hr t C F k' u' v' → rs_k (mx_uI (mx_uI hc (.inr (t, 7)) k d) (.inr (t, 8)) k e) gr t C F k' u' v' := fun k' u' v' P => by
        obtain ⟨q1, q2, q3, q4, q5, q6, q7, q8, q9, q10, q11, q12⟩ := id P
        by_cases ek : k' = k
        · subst ek
          have Q4 := Q.2.2.2.1
          have Q5 := Q.2.2.2.2.1
          have uv : (u' = u ∧ v' = v) ∨ (u' = v ∧ v' = u) := by omega
          unfold rs_k rD
          rw [cl t 5 k' (by omega), cl t 6 k' (by omega), c7, c8, w6 113 (36 * t + 6 * u' + v') (by decide +kernel) (by decide +kernel), w6 113 (36 * t + 6 * v' + u') (by decide +kernel) (by decide +kernel), w6 117 (F + k') (by decide +kernel) (by decide +kernel), w4, w4, w5, w5]
          rcases uv with ⟨e1, e2⟩ | ⟨e1, e2⟩
          · subst e1
            subst e2
            refine ⟨q1, q2, q3, q4, q5, q6, q7, ?_, ?_, ?_, ?_, q12.1, hde⟩
            · rw [if_neg (by omega), if_pos rfl]
            · rw [if_pos rfl]
            · rw [if_neg (by omega), if_pos rfl]
            · rw [if_pos rfl]
          · subst e1
            subst e2
            refine ⟨q1, q2, q3, q4, q5, q6, q7, ?_, ?_, ?_, ?_, q12.1, hde⟩
            · rw [if_pos rfl]
            · rw [if_neg (by omega), if_pos rfl]
            · rw [if_pos rfl]
            · rw [if_neg (by omega), if_pos rfl]
        · have m1 : ¬ 36 * t + 6 * u' + v' = 36 * t + 6 * v + u := fun z => by
            rw [z] at q6
            omega
          have m2 : ¬ 36 * t + 6 * u' + v' = 36 * t + 6 * u + v := fun z => by
            rw [z] at q6
            omega
          have m3 : ¬ 36 * t + 6 * v' + u' = 36 * t + 6 * v + u := fun z => by
            rw [z] at q7
            omega
          have m4 : ¬ 36 * t + 6 * v' + u' = 36 * t + 6 * u + v := fun z => by
            rw [z] at q7
            omega
          unfold rs_k rD
          rw [cl t 5 k' (by omega), cl t 6 k' (by omega), cl t 7 k' (by omega), cl t 8 k' (by omega), w6 113 (36 * t + 6 * u' + v') (by decide +kernel) (by decide +kernel), w6 113 (36 * t + 6 * v' + u') (by decide +kernel) (by decide +kernel), w6 117 (F + k') (by decide +kernel) (by decide +kernel), w4, w4, w5, w5, if_neg m1, if_neg m2, if_neg m3, if_neg m4, if_neg m1, if_neg m2, if_neg m3, if_neg m4]
          exact ⟨q1, q2, q3, q4, q5, q6, q7, q8, q9, q10, q11, q12⟩
      refine ⟨d1, d2, d3, ?_, ?_, ?_, ?_, fun i hi => ?_, ?_, fun k hk => ?_, fun u v hu hv => ?_, ?_, d13⟩
      · unfold rD
        rw [cl t 0 0 (by omega)]
        exact d4
      · unfold rD
        rw [w6 106 t (by decide +kernel) (by decide +kernel)]
        exact d5
      · unfold rD
        rw [cl t 0 6 (by omega)]
        exact d6
      · unfold rD
        rw [cl t 0 5 (by omega)]
        exact d7
      · rw [cl t 1 i (by omega), cl t 2 i (by omega), cl t 3 i (by omega), cl t 4 i (by omega), w6 107 _ (by decide +kernel) (by decide +kernel), w6 108 _ (by decide +kernel) (by decide +kernel), w6 109 _ (by decide +kernel) (by decide +kernel), w6 110 _ (by decide +kernel) (by decide +kernel)]
        exact d8 i hi
      · rw [cl t 0 11 (by omega), cl t 0 12 (by omega), w6 114 t (by decide +kernel) (by decide +kernel), w6 115 t (by decide +kernel) (by decide +kernel)]
        exact d9
      · obtain ⟨u, v, P⟩ := d10 k hk
        exact ⟨u, v, kx k u v P⟩
      · rw [w6 113 _ (by decide +kernel) (by decide +kernel)]
        rcases d11 u v hu hv with z | ⟨k, p1, p2⟩
        · exact Or.inl z
        · refine Or.inr ⟨k, p1, ?_⟩
          rcases p2 with p2 | p2
          · exact Or.inl (kx _ _ _ p2)
          · exact Or.inr (kx _ _ _ p2)
      · refine d12.trans ?_
        unfold sd_C
        congr 1
        refine List.filter_congr (fun c' _ => ?_)
        unfold rz_g
        rw [w6 113 _ (by decide +kernel) (by decide +kernel)]
    · obtain ⟨C', n', F', Dt⟩ := (A9 t ht).2
      refine ⟨C', n', F', Dt.x (Nat.le_refl _) (fun p i _ => cl t p i (by omega)) (fun q i z => ?_) (fun i _ => ⟨w6 117 i (by decide +kernel) (by decide +kernel), rfl⟩)⟩
      unfold rs_w at z
      by_cases q1 : q = 111
      · subst q1
        rw [w4, if_neg (by omega), if_neg (by omega)]
      · by_cases q2 : q = 112
        · subst q2
          rw [w5, if_neg (by omega), if_neg (by omega)]
        · exact w6 q i q1 q2
  · rw [w6 116 b (by decide +kernel) (by decide +kernel), w6 117 b (by decide +kernel) (by decide +kernel)]
    obtain ⟨b1, b2⟩ := A10 b hb
    refine ⟨b1, ?_⟩
    rcases b2 with q | ⟨t, k, q1, q2, q3⟩
    · exact Or.inl q
    · refine Or.inr ⟨t, k, q1, ?_, ?_⟩
      · unfold rD
        rw [cl t 0 6 (by omega)]
        exact q2
      · unfold rD
        rw [cl t 0 5 (by omega)]
        exact q3
/-- setStiff at the place of a piece -/
theorem R199 {p : Int32} {b : Nat} (hp : p.toInt = ((36 * s + 6 * u + v : Nat) : Int)) (hu : u < 6) (hv : v < 6) (ne : u ≠ v) (s12 : s ≤ 12) (b1 : rD hr (.inl 113) (36 * s + 6 * u + v) = ((b + 1 : Nat) : Int)) (b2 : rD hr (.inl 113) (36 * s + 6 * v + u) = ((b + 1 : Nat) : Int)) (bb : b < 1000) : rp_w hr (f199 p d e hr) s u v d e := by
  obtain ⟨p1, p2, p3⟩ := R_dec hp hu hv s12
  have bm : hr.2.1 (.inl 113) (36 * s + 6 * u + v) - 1 + 1 = hr.2.1 (.inl 113) (36 * s + 6 * u + v) := i_eq (i_add (i_sub b1 k_1 (by omega) (by omega)) k_1 (by omega) (by omega)) b1 (by omega)
  have bs : hr.2.1 (.inl 113) (36 * s + 6 * v + u) = hr.2.1 (.inl 113) (36 * s + 6 * u + v) := i_eq b2 b1 rfl
  have E : f199 p d e hr = k_p (k_p hr (36 * s + 6 * u + v) (hr.2.1 (.inl 113) (36 * s + 6 * u + v) - 1) d e) (36 * s + 6 * v + u) (hr.2.1 (.inl 113) (36 * s + 6 * u + v) - 1) d e := by
    rw [f199_eq, i_cl hp, k181 p1 p2 p3 s12 hu hv]
    rfl
  rw [E]
  refine ⟨rfl, rfl, fun _ _ => rfl, fun i => by rw [k_p1, k_p1], fun i => by rw [k_p2, k_p2], fun q i q1 q2 => ?_⟩
  by_cases q3 : q = 113
  · subst q3
    rw [k_p3, k_p3, bm]
    by_cases e1 : i = 36 * s + 6 * v + u
    · rw [if_pos e1, e1, bs]
    · rw [if_neg e1]
      by_cases e2 : i = 36 * s + 6 * u + v
      · rw [if_pos e2, e2]
      · rw [if_neg e2]
  · rw [k_po q1 q2 q3, k_po q1 q2 q3]
/-- the piece between two corners, asked on both sides -/
theorem rs_pb (Ds : rs_D hc hr N s C n F) (n15 : n ≤ 15) (N2 : N ≤ 200) (s12 : s ≤ 12) (ha : a.toInt = (s : Int)) (hx : x.toInt = (u : Int)) (hy : y.toInt = (v : Int)) (hu : u < C) (hv : v < C) :
    (∃ k, k < n ∧ u ≠ v ∧ (f61 s x y hc).toInt = (k : Int) ∧ (rs_k hc hr s C F k u v ∨ rs_k hc hr s C F k v u) ∧ f180 a x y hr = 1 ∧ (f179 a x y).toInt = ((36 * s + 6 * u + v : Nat) : Int)) ∨ (f61 s x y hc = -1 ∧ (u = v ∨ (u ≠ v ∧ f180 a x y hr = 0))) := by
  obtain ⟨d1, d2, d3, d4, d5, d6, d7, d8, d9, d10, d11, d12, d13⟩ := id Ds
  have W := w179 ha hx hy s12 (show u < 6 by omega) (show v < 6 by omega)
  have f180' : f180 a x y hr = if hr.2.1 (.inl 113) (36 * s + 6 * u + v) ≤ 0 then 0 else 1 := by rw [f180_eq, i_cl W]
  rcases k61 (a := x) (b := y) d6 n15 with ⟨k, k1, k2, k3, k4⟩ | ⟨k1, k2⟩
  · obtain ⟨u', v', Q⟩ := d10 k k1
    have q4 := Q.2.2.2.1
    have q5 := Q.2.2.2.2.1
    have qn := Q.2.2.1
    have m1 := k_mn_v hx hy
    have m2 := k_mx_v hx hy
    unfold rD at q4 q5
    rw [k2, m1] at q4
    rw [k3, m2] at q5
    have uv : (u' = u ∧ v' = v) ∨ (u' = v ∧ v' = u) := by omega
    have P : rs_k hc hr s C F k u v ∨ rs_k hc hr s C F k v u := by
      rcases uv with ⟨t1, t2⟩ | ⟨t1, t2⟩
      · rw [t1, t2] at Q
        exact Or.inl Q
      · rw [t1, t2] at Q
        exact Or.inr Q
    have b1 : rD hr (.inl 113) (36 * s + 6 * u + v) = ((F + k + 1 : Nat) : Int) := by
      rcases P with P | P
      · exact P.2.2.2.2.2.1
      · exact P.2.2.2.2.2.2.1
    refine Or.inl ⟨k, k1, by omega, k4, P, ?_, W⟩
    rw [f180', if_neg (i_nle b1 k_0 (by omega))]
  · refine Or.inr ⟨k2, ?_⟩
    by_cases e : u = v
    · exact Or.inl e
    · refine Or.inr ⟨e, ?_⟩
      rw [f180']
      rcases d11 u v (by omega) (by omega) with z | ⟨k, p1, p2⟩
      · rw [z]
        rfl
      · exfalso
        have m1 := k_mn_v hx hy
        have m2 := k_mx_v hx hy
        refine k1 k p1 ⟨?_, ?_⟩
        · rcases p2 with p2 | p2
          · exact i_eq p2.2.2.2.1 m1 (by omega)
          · exact i_eq p2.2.2.2.1 m1 (by omega)
        · rcases p2 with p2 | p2
          · exact i_eq p2.2.2.2.2.1 m2 (by omega)
          · exact i_eq p2.2.2.2.2.1 m2 (by omega)
/-- an entry more -/
theorem rh_add (H : rh_H hc hr S V D U) (hm : E + m = D) (E40 : E < 40) (c1 : ∀ j, j < E → gc.2.2.2 (.inl 85) j = hc.2.2.2 (.inl 85) (j + m) ∧ ∀ q, 86 ≤ q → q ≤ 89 → gc.2.1 (.inl q) j = hc.2.1 (.inl q) (j + m)) (r1 : ∀ j, j < E → ∀ q, 123 ≤ q → q ≤ 127 → gr.2.1 (.inl q) j = hr.2.1 (.inl q) (j + m)) (sc : rh_s S hc gc)
    (c2 : rD gc (.inl 84) 0 = ((E + 1 : Nat) : Int)) (c3 : rD gc (.inl 84) 1 = 0) (r2 : rD gr (.inl 105) 24 = ((E + 1 : Nat) : Int)) (r3 : rD gr (.inl 105) 25 = 0)
    (new : rh_e gc gr S (fun j s k => if j ≤ E then V (j + m) s k else rD gc (.inr (s, 7)) k) E) : rh_H gc gr S (fun j s k => if j ≤ E then V (j + m) s k else rD gc (.inr (s, 7)) k) (E + 1) 0 := by
  obtain ⟨h1, h2, h3, h4, h5, h6, h7⟩ := H
  refine ⟨c2, c3, r2, r3, by omega, fun s k _ => if_neg (by omega), fun j hj => ?_⟩
  by_cases e : j = E
  · rw [e]
    exact new
  · refine rh_e.x (m := m) (V := V) (c1 j (by omega)).1 (c1 j (by omega)).2 (r1 j (by omega)) sc (Nat.le_refl _) (fun s k _ => ⟨if_pos (by omega), ?_⟩) (fun s k l1 l2 => by omega) (h7 (j + m) (by omega))
    rw [if_pos (by omega), show j + 1 + m = j + m + 1 by omega]
end REE
/-! ===== put, crack, stroke: alike, and told alike ===== -/
section RFF
variable {h h' g hc hr gc gr : mx_H} {S N s i j n m k c C F u v o D U E : Nat} {a a1 a2 a3 a4 a5 b1 p x y d e w : Int32} {V : Nat → Nat → Nat → Int}
theorem k_40 : (40 : Int32).toInt = 40 := rfl
theorem rs_u.refl : rs_u S h h := ⟨rfl, rfl, fun _ => rfl, fun _ => rfl, rfl, rfl, fun _ => rfl, fun _ _ _ _ _ => rfl⟩
theorem rs_v.refl : rs_v S h h := ⟨rfl, rfl, fun _ => rfl, fun _ => rfl, fun _ _ _ _ _ => rfl⟩
/-- fields' numbers: the class's, the reference's -/
def rq_f (o : Nat) (a1 b1 : Int32) : Prop := (o = 2 ∧ a1 = 0 ∧ b1 = 0) ∨ (o = 3 ∧ a1 = 1 ∧ b1 = 1) ∨ (o = 1 ∧ a1 = 3 ∧ b1 = 5) ∨ (o = 4 ∧ a1 = 2 ∧ b1 = 2)
theorem rq_f.bd (f : rq_f o a1 b1) : 1 ≤ o ∧ o ≤ 4 := by
  unfold rq_f at f
  omega
theorem C66c (f : rq_f o a1 b1) (ha : a2.toInt = (c : Int)) : f66 s a1 a2 h = h.2.1 (.inr (s, o)) c := by
  rw [f66_eq]
  rcases f with ⟨t, e1, -⟩ | ⟨t, e1, -⟩ | ⟨t, e1, -⟩ | ⟨t, e1, -⟩
  · rw [t, e1, if_pos rfl, g66_32_eq, i_cl ha]
  · rw [t, e1, if_neg (by decide +kernel), if_pos rfl, g66_39_eq, i_cl ha]
  · rw [t, e1, if_neg (by decide +kernel), if_neg (by decide +kernel), if_neg (by decide +kernel), if_pos rfl, g66_53_eq, i_cl ha]
  · rw [t, e1, if_neg (by decide +kernel), if_neg (by decide +kernel), if_pos rfl, g66_46_eq, i_cl ha]
theorem C67c (f : rq_f o a1 b1) (ha : a2.toInt = (c : Int)) : f67 s a1 a2 w h = mx_uI h (.inr (s, o)) c w := by
  rw [f67_eq]
  rcases f with ⟨t, e1, -⟩ | ⟨t, e1, -⟩ | ⟨t, e1, -⟩ | ⟨t, e1, -⟩
  · rw [t, e1, if_pos rfl, g67_32_eq, i_cl ha]
  · rw [t, e1, if_neg (by decide +kernel), if_pos rfl, g67_42_eq, i_cl ha]
  · rw [t, e1, if_neg (by decide +kernel), if_neg (by decide +kernel), if_neg (by decide +kernel), if_pos rfl, g67_62_eq, i_cl ha]
  · rw [t, e1, if_neg (by decide +kernel), if_neg (by decide +kernel), if_pos rfl, g67_52_eq, i_cl ha]
theorem R200c {q : Nat} (f : rq_f o a1 b1) (hp : p.toInt = (q : Int)) (b : o = 4 → w = 0 ∨ w = 1) : f200 b1 p w a5 h = mx_uI h (.inl (106 + o)) q w := by
  rw [f200_eq]
  rcases f with ⟨t, -, e1⟩ | ⟨t, -, e1⟩ | ⟨t, -, e1⟩ | ⟨t, -, e1⟩
  · rw [t, e1, if_pos rfl, g200_36_eq, i_cl hp]
  · rw [t, e1, if_neg (by decide +kernel), if_pos rfl, g200_46_eq, i_cl hp]
  · rw [t, e1, if_neg (by decide +kernel), if_neg (by decide +kernel), if_neg (by decide +kernel), if_neg (by decide +kernel), if_neg (by decide +kernel), g200_101_eq, i_cl hp]
  · rw [t, e1, if_neg (by decide +kernel), if_neg (by decide +kernel), if_pos rfl, g200_56_eq, i_cl hp]
    rcases b t with e2 | e2
    · rw [e2, if_pos (by decide +kernel)]
      rfl
    · rw [e2, if_neg (by decide +kernel)]
      rfl
theorem C17f (hD : rD h (.inl 84) 0 = D) (D40 : D ≤ 40) (R : ∀ j, j < D → ∃ t, h.2.2.2 (.inl 85) j = some (.inr (t, 0))) : rh_fc h (f17 s a2 a3 a4 a5 h) := by
  rcases C17 (s := s) (a2 := a2) (a3 := a3) (a4 := a4) (a5 := a5) hD D40 R with ⟨-, K⟩ | ⟨-, K⟩
  · exact K.1
  · exact K.1
theorem R198f (hD : rD h (.inl 105) 24 = D) (D40 : D ≤ 40) : rh_fr h (f198 a1 a2 a3 a4 a5 h) := by
  rcases R198 (a1 := a1) (a2 := a2) (a3 := a3) (a4 := a4) (a5 := a5) hD D40 with ⟨-, K⟩ | ⟨-, K⟩
  · exact K.1
  · exact K.1
theorem rh_H.R (H : rh_H hc hr S V D U) : ∀ j, j < D → ∃ t, hc.2.2.2 (.inl 85) j = some (.inr (t, 0)) := fun j hj => by
  obtain ⟨s, -, e, -⟩ := H.2.2.2.2.2.2 j (by omega)
  exact ⟨s, e⟩
/-- both sides: an entry more; what it is of is told by the new heaps -/
theorem rq_add {kc : mx_H} (H : rh_H hc hr S V D U) (k84 : rD kc (.inl 84) 0 = D) (k85 : ∀ i, kc.2.2.2 (.inl 85) i = hc.2.2.2 (.inl 85) i) (kq : ∀ q i, 86 ≤ q → q ≤ 89 → kc.2.1 (.inl q) i = hc.2.1 (.inl q) i) (ks : rh_s S hc kc) (gq : ∀ q i, 123 ≤ q → q ≤ 127 → gr.2.1 (.inl q) i = (f198 b1 p x y w hr).2.1 (.inl q) i) (g24 : ∀ i, i = 24 ∨ i = 25 → gr.2.1 (.inl 105) i = (f198 b1 p x y w hr).2.1 (.inl 105) i)
    (new : ∀ (V' : Nat → Nat → Nat → Int) (gc : mx_H) (E : Nat), gc.2.2.2 (.inl 85) E = some (.inr (s, 0)) → gc.2.1 (.inl 86) E = a2 → gc.2.1 (.inl 87) E = a3 → gc.2.1 (.inl 88) E = a4 → gc.2.1 (.inl 89) E = a5 → gr.2.1 (.inl 123) E = b1 → gr.2.1 (.inl 124) E = p → gr.2.1 (.inl 125) E = x → gr.2.1 (.inl 126) E = y → gr.2.1 (.inl 127) E = w → (∀ q i, gc.2.1 (.inr q) i = kc.2.1 (.inr q) i) → (∀ t k, t < S → V' E t k = rD hc (.inr (t, 7)) k) → (∀ t k, t < S → V' (E + 1) t k = rD kc (.inr (t, 7)) k) → rh_e gc gr S V' E) :
    ∃ V' D' U', rh_H (f17 s a2 a3 a4 a5 kc) gr S V' D' U' := by
  obtain ⟨h1, h2, h3, h4, h5, h6, h7⟩ := id H
  have go : ∀ E m, E + m = D → E < 40 → ka_C kc (f17 s a2 a3 a4 a5 kc) s a2 a3 a4 a5 E m → ka_R hr (f198 b1 p x y w hr) b1 p x y w E m → ∃ V' D' U', rh_H (f17 s a2 a3 a4 a5 kc) gr S V' D' U' := fun E m hm E40 KC KR => by
    obtain ⟨k1, k2, k3, k4, k5, k6, k7, k8, k9⟩ := KC
    obtain ⟨r1, r2, r3, r4, r5, r6, r7, r8, r9⟩ := KR
    refine ⟨_, E + 1, 0, rh_add H hm E40 (fun j hj => ⟨(k4 j hj).1.trans (k85 _), fun q l1 l2 => ((k4 j hj).2 q l1 l2).trans (kq q _ l1 l2)⟩) (fun j hj q l1 l2 => (gq q j l1 l2).trans (r4 j hj q l1 l2)) (fun t ht => ⟨(k1.2.2.1 (t, 0) 6).trans (ks t ht).1, fun k => ⟨(k1.2.2.1 (t, 5) k).trans ((ks t ht).2 k).1, (k1.2.2.1 (t, 6) k).trans ((ks t ht).2 k).2⟩⟩) k2 k3 ?_ ?_ (new _ _ _ k5 k6 k7 k8 k9 ?_ ?_ ?_ ?_ ?_ k1.2.2.1 (fun t k ht => ?_) (fun t k ht => ?_))⟩
    · unfold rD
      rw [g24 24 (Or.inl rfl)]
      exact r2
    · unfold rD
      rw [g24 25 (Or.inr rfl)]
      exact r3
    · exact (gq 123 E (by decide +kernel) (by decide +kernel)).trans r5
    · exact (gq 124 E (by decide +kernel) (by decide +kernel)).trans r6
    · exact (gq 125 E (by decide +kernel) (by decide +kernel)).trans r7
    · exact (gq 126 E (by decide +kernel) (by decide +kernel)).trans r8
    · exact (gq 127 E (by decide +kernel) (by decide +kernel)).trans r9
    · show (if E ≤ E then V (E + m) t k else rD (f17 s a2 a3 a4 a5 kc) (.inr (t, 7)) k) = _
      rw [if_pos (Nat.le_refl _), hm]
      exact h6 t k ht
    · show (if E + 1 ≤ E then V (E + 1 + m) t k else rD (f17 s a2 a3 a4 a5 kc) (.inr (t, 7)) k) = _
      rw [if_neg (by omega)]
      unfold rD
      rw [k1.2.2.1 (t, 7) k]
  have R' : ∀ j, j < D → ∃ t, kc.2.2.2 (.inl 85) j = some (.inr (t, 0)) := fun j hj => by
    obtain ⟨t, e⟩ := H.R j hj
    exact ⟨t, (k85 j).trans e⟩
  rcases C17 (s := s) (a2 := a2) (a3 := a3) (a4 := a4) (a5 := a5) k84 (by omega) R' with ⟨c1, KC⟩ | ⟨c1, KC⟩
  · rcases R198 (a1 := b1) (a2 := p) (a3 := x) (a4 := y) (a5 := w) h3 (by omega) with ⟨-, KR⟩ | ⟨c2, KR⟩
    · exact go D 0 rfl c1 KC KR
    · omega
  · rcases R198 (a1 := b1) (a2 := p) (a3 := x) (a4 := y) (a5 := w) h3 (by omega) with ⟨c2, KR⟩ | ⟨-, KR⟩
    · omega
    · exact go 39 1 (by omega) (by omega) KC KR
/-- a corner is set and told, on both sides -/
theorem rq_corner (A : rs_A hc hr S N) (H : rh_H hc hr S V D U) (hs : s < S) (c6 : c < 6) (f : rq_f o a1 b1) (ha : a2.toInt = (c : Int)) (hp : p.toInt = ((6 * s + c : Nat) : Int)) (ew : hc.2.1 (.inr (s, o)) c = w) (b4 : o = 4 → (w = 0 ∨ w = 1) ∧ (x = 0 ∨ x = 1)) :
    rs_A (f17 s a1 a2 w x (mx_uI hc (.inr (s, o)) c x)) (mx_uI (f198 b1 p w x 0 hr) (.inl (106 + o)) (6 * s + c) x) S N ∧ ∃ V' D' U', rh_H (f17 s a1 a2 w x (mx_uI hc (.inr (s, o)) c x)) (mx_uI (f198 b1 p w x 0 hr) (.inl (106 + o)) (6 * s + c) x) S V' D' U' := by
  obtain ⟨h1, h2, h3, h4, h5, h6, h7⟩ := id H
  obtain ⟨o1, o4⟩ := f.bd
  have fr := R198f (a1 := b1) (a2 := p) (a3 := w) (a4 := x) (a5 := 0) h3 (by omega)
  have fc := C17f (s := s) (a2 := a1) (a3 := a2) (a4 := w) (a5 := x) (h := mx_uI hc (.inr (s, o)) c x) (D := D) h1 (by omega) H.R
  refine ⟨(((A.g rs_u.refl fr.v).corner hs o1 o4 c6).g fc.u rs_v.refl), rq_add (b1 := b1) (p := p) (x := w) (y := x) (w := 0) H (kc := mx_uI hc (.inr (s, o)) c x) h1 (fun _ => rfl) (fun _ _ _ _ => rfl) (fun t ht => ⟨?_, fun k => ⟨?_, ?_⟩⟩) (fun q i l1 l2 => ?_) (fun i hi => ?_) (fun V' g E k5 k6 k7 k8 k9 r5 r6 r7 r8 r9 gi v0 v1 => ?_)⟩
  · exact rI_a (fun z => by
      cases z
      omega)
  · exact rI_a (fun z => by
      cases z
      omega)
  · exact rI_a (fun z => by
      cases z
      omega)
  · rw [rN (by omega)]
  · rw [rN (by omega)]
  · refine ⟨s, hs, k5, Or.inl ⟨⟨o, c, c6, ?_, ?_, ?_, ?_, ?_⟩, fun t k ht => ?_⟩⟩
    · unfold rD
      rw [k7]
      exact ha
    · unfold rD
      rw [r6]
      exact hp
    · rw [k8, r7]
    · rw [k9, r8]
    · rw [k6, r5, k8, k9]
      rcases f with ⟨t, q1, q2⟩ | ⟨t, q1, q2⟩ | ⟨t, q1, q2⟩ | ⟨t, q1, q2⟩
      · exact Or.inl ⟨t, q1, q2⟩
      · exact Or.inr (Or.inl ⟨t, q1, q2⟩)
      · exact Or.inr (Or.inr (Or.inl ⟨t, q1, q2⟩))
      · exact Or.inr (Or.inr (Or.inr ⟨t, q1, q2, (b4 t).1, (b4 t).2⟩))
    · rw [v0 t k ht, v1 t k ht]
      unfold rD
      rw [rI_a (fun z => by
        cases z
        omega)]
theorem rs_k.b (Q : rs_k hc hr s C F k u v ∨ rs_k hc hr s C F k v u) : u < C ∧ v < C ∧ u ≠ v ∧ rD hc (.inr (s, 5)) k = ((min u v : Nat) : Int) ∧ rD hc (.inr (s, 6)) k = ((max u v : Nat) : Int) ∧ rD hr (.inl 113) (36 * s + 6 * u + v) = ((F + k + 1 : Nat) : Int) ∧ rD hr (.inl 113) (36 * s + 6 * v + u) = ((F + k + 1 : Nat) : Int) ∧ hr.2.1 (.inl 111) (36 * s + 6 * u + v) = hc.2.1 (.inr (s, 7)) k ∧ hr.2.1 (.inl 112) (36 * s + 6 * u + v) = hc.2.1 (.inr (s, 8)) k := by
  rcases Q with Q | Q
  · exact ⟨Q.1, Q.2.1, Q.2.2.1, Q.2.2.2.1, Q.2.2.2.2.1, Q.2.2.2.2.2.1, Q.2.2.2.2.2.2.1, Q.2.2.2.2.2.2.2.1, Q.2.2.2.2.2.2.2.2.2.1⟩
  · have q1 := Q.2.2.1
    have q2 := Q.2.2.2.1
    have q3 := Q.2.2.2.2.1
    exact ⟨Q.2.1, Q.1, by omega, by omega, by omega, Q.2.2.2.2.2.2.1, Q.2.2.2.2.2.1, Q.2.2.2.2.2.2.2.2.1, Q.2.2.2.2.2.2.2.2.2.2.1⟩
theorem rs_A.piece2 (A : rs_A hc hr S N) (hs : s < S) (Ds : rs_D hc hr N s C n F) (hk : k < n) (Q : rs_k hc hr s C F k u v ∨ rs_k hc hr s C F k v u) (w : rp_w hr gr s u v d e) (hde : e.toInt ≤ d.toInt) : rs_A (mx_uI (mx_uI hc (.inr (s, 7)) k d) (.inr (s, 8)) k e) gr S N := by
  rcases Q with Q | Q
  · exact A.piece hs Ds hk Q w hde
  · exact A.piece hs Ds hk Q (w.sy (fun z => Q.2.2.1 z.symm)) hde
theorem rs_k.le (Q : rs_k hc hr s C F k u v ∨ rs_k hc hr s C F k v u) : rD hc (.inr (s, 8)) k ≤ rD hc (.inr (s, 7)) k := by
  rcases Q with Q | Q
  · exact Q.2.2.2.2.2.2.2.2.2.2.2.2
  · exact Q.2.2.2.2.2.2.2.2.2.2.2.2
/-- a piece is set and told, on both sides -/
theorem rq_piece {X Y cb ca : Int} (A : rs_A hc hr S N) (H : rh_H hc hr S V D U) (hs : s < S) (Ds : rs_D hc hr N s C n F) (hk : k < n) (Q : rs_k hc hr s C F k u v ∨ rs_k hc hr s C F k v u) (ha : a2.toInt = (k : Int)) (hp : p.toInt = ((36 * s + 6 * u + v : Nat) : Int)) (e4 : a4.toInt = 10 * X + cb) (e5 : a5.toInt = 10 * Y + ca) (bX : 0 ≤ X ∧ X ≤ 9 ∧ 0 ≤ Y ∧ Y ≤ 9 ∧ 0 ≤ cb ∧ cb ≤ 9 ∧ 0 ≤ ca ∧ ca ≤ 9 ∧ cb ≤ X ∧ ca ≤ Y) (hE : e.toInt = ca) (hX : rD hc (.inr (s, 7)) k = X) (hY : d.toInt = Y)
    (cd : (b1 = 3 ∧ x.toInt = cb ∧ y.toInt = ca ∧ X = Y) ∨ (b1 = 4 ∧ x.toInt = X ∧ y.toInt = Y ∧ w.toInt = cb ∧ ca = min cb Y)) (W : rp_w (f198 b1 p x y w hr) gr s u v d e) :
    rs_A (f17 s 4 a2 a4 a5 (mx_uI (mx_uI hc (.inr (s, 7)) k d) (.inr (s, 8)) k e)) gr S N ∧ ∃ V' D' U', rh_H (f17 s 4 a2 a4 a5 (mx_uI (mx_uI hc (.inr (s, 7)) k d) (.inr (s, 8)) k e)) gr S V' D' U' := by
  obtain ⟨h1, h2, h3, h4, h5, h6, h7⟩ := id H
  have C6 := Ds.2.1
  have fr := R198f (a1 := b1) (a2 := p) (a3 := x) (a4 := y) (a5 := w) h3 (by omega)
  have fc := C17f (s := s) (a2 := 4) (a3 := a2) (a4 := a4) (a5 := a5) (h := mx_uI (mx_uI hc (.inr (s, 7)) k d) (.inr (s, 8)) k e) (D := D) h1 (by omega) H.R
  have fv := fr.v (S := S)
  have fnN := Ds.2.2.1
  have Ds' : rs_D hc (f198 b1 p x y w hr) N s C n F := Ds.x (Nat.le_refl _) (fun _ _ _ => rfl) (fv.2.2.2.2 s hs) (fun i _ => ⟨fv.2.2.2.1 i, rfl⟩)
  have kx : ∀ u v, rs_k hc hr s C F k u v → rs_k hc (f198 b1 p x y w hr) s C F k u v := fun u v q => rs_k.x C6 (N := N) (by omega) (fun _ _ _ => rfl) (fv.2.2.2.2 s hs) (fun i _ => fv.2.2.2.1 i) q
  have Q' : rs_k hc (f198 b1 p x y w hr) s C F k u v ∨ rs_k hc (f198 b1 p x y w hr) s C F k v u := by
    rcases Q with q | q
    · exact Or.inl (kx _ _ q)
    · exact Or.inr (kx _ _ q)
  have A' : rs_A hc (f198 b1 p x y w hr) S N := A.g rs_u.refl fv
  have cl : ∀ t q i, ¬ (t = s ∧ (q = 7 ∨ q = 8) ∧ i = k) → (mx_uI (mx_uI hc (.inr (s, 7)) k d) (.inr (s, 8)) k e).2.1 (.inr (t, q)) i = hc.2.1 (.inr (t, q)) i := fun t q i z => (if_neg (fun z' => by
    have z1 := z'.1
    have z2 := z'.2
    cases z1
    exact z ⟨rfl, Or.inr rfl, z2⟩)).trans (if_neg (fun z' => by
    have z1 := z'.1
    have z2 := z'.2
    cases z1
    exact z ⟨rfl, Or.inl rfl, z2⟩))
  obtain ⟨q1, q2, q3, q4, q5, q6, q7, q8, q9⟩ := rs_k.b Q
  have n6 := Ds.2.2.2.2.2.1
  refine ⟨(A'.piece2 hs Ds' hk Q' W (by omega)).g fc.u rs_v.refl, rq_add (b1 := b1) (p := p) (x := x) (y := y) (w := w) H (kc := mx_uI (mx_uI hc (.inr (s, 7)) k d) (.inr (s, 8)) k e) h1 (fun _ => rfl) (fun _ _ _ _ => rfl) (fun t ht => ⟨cl t 0 6 (by omega), fun i => ⟨cl t 5 i (by omega), cl t 6 i (by omega)⟩⟩) (fun q i l1 l2 => W.2.2.2.2.2 q i (by omega) (by omega)) (fun i hi => W.2.2.2.2.2 105 i (by omega) (by omega)) (fun V' g E k5 k6 k7 k8 k9 r5 r6 r7 r8 r9 gi v0 v1 => ?_)⟩
  have c7 : (mx_uI (mx_uI hc (.inr (s, 7)) k d) (.inr (s, 8)) k e).2.1 (.inr (s, 7)) k = d := by rw [rS (by decide +kernel), rI_s]
  refine ⟨s, hs, k5, Or.inr ⟨k, u, v, X, Y, cb, ca, k6, ?_, ?_, ⟨by omega, by omega, q3⟩, ?_, ?_, ?_, ?_, ?_, bX, ?_, ?_, fun t i ht z => ?_, ?_⟩⟩
  · unfold rD
    rw [k7]
    exact ha
  · unfold rD
    rw [gi (s, 0) 6, cl s 0 6 (by omega)]
    unfold rD at n6
    omega
  · unfold rD
    rw [gi (s, 5) k, cl s 5 k (by omega)]
    exact q4
  · unfold rD
    rw [gi (s, 6) k, cl s 6 k (by omega)]
    exact q5
  · unfold rD
    rw [r6]
    exact hp
  · unfold rD
    rw [k8]
    exact e4
  · unfold rD
    rw [k9]
    exact e5
  · rw [v0 s k hs]
    exact hX
  · rw [v1 s k hs]
    unfold rD
    rw [c7]
    exact hY
  · rw [v0 t i ht, v1 t i ht]
    unfold rD
    rw [cl t 7 i (fun z' => z ⟨z'.1, z'.2.2⟩)]
  · unfold rD
    rw [r5, r7, r8, r9]
    exact cd
theorem C170c (f : rq_f o a1 b1) (ha : a2.toInt = (c : Int)) : f170 s a1 a2 x h = if h.2.1 (.inr (s, o)) c = x then (h.2.1 (.inr (s, o)) c, h) else (h.2.1 (.inr (s, o)) c, f17 s a1 a2 (h.2.1 (.inr (s, o)) c) x (mx_uI h (.inr (s, o)) c x)) := by
  rw [f170_eq, C66c f ha, C67c f ha]
  rfl
/-- what a setting of a corner answers, on both sides -/
theorem rq_put (A : rs_A hc hr S N) (H : rh_H hc hr S V D U) (hs : s < S) (c6 : c < 6) (f : rq_f o a1 b1) (ha : a2.toInt = (c : Int)) (hp : p.toInt = ((6 * s + c : Nat) : Int)) (ew : hc.2.1 (.inr (s, o)) c = w) (b4 : o = 4 → (w = 0 ∨ w = 1) ∧ (x = 0 ∨ x = 1)) {rr : Int32 × mx_H} (er : rr = if w ≠ x then (w, f200 b1 p x 0 (f198 b1 p w x 0 hr)) else (w, hr)) :
    (f170 s a1 a2 x hc).1 = rr.1 ∧ rs_A (f170 s a1 a2 x hc).2 rr.2 S N ∧ ∃ V' D' U', rh_H (f170 s a1 a2 x hc).2 rr.2 S V' D' U' := by
  rw [er, C170c f ha, ew, R200c f hp (fun t => (b4 t).2)]
  by_cases e : w = x
  · rw [if_pos e, if_neg (fun z => z e)]
    exact ⟨rfl, A, V, D, U, H⟩
  · rw [if_neg e, if_pos e]
    exact ⟨rfl, rq_corner A H hs c6 f ha hp ew b4⟩
set_option maxHeartbeats 8000000 in
/-- put -/
theorem rs_put (A : rs_A hc hr S N) (H : rh_H hc hr S V D U) (hb : ∀ i, hr.2.1 (.inl 110) i = 0 ∨ hr.2.1 (.inl 110) i = 1) : (f106 a1 a2 a3 a4 hc).1 = (f201 a1 a2 a3 a4 hr).1 ∧ rs_A (f106 a1 a2 a3 a4 hc).2 (f201 a1 a2 a3 a4 hr).2 S N ∧ ∃ V' D' U', rh_H (f106 a1 a2 a3 a4 hc).2 (f201 a1 a2 a3 a4 hr).2 S V' D' U' := by
  obtain ⟨A1, A2, A3, A4, A5, A6, A7, A8, A9, A10⟩ := id A
  have bad : g201_46 hr = (-1, hr) := g201_46_eq hr
  have fin : f106 a1 a2 a3 a4 hc = (-1, hc) → f201 a1 a2 a3 a4 hr = (-1, hr) → (f106 a1 a2 a3 a4 hc).1 = (f201 a1 a2 a3 a4 hr).1 ∧ rs_A (f106 a1 a2 a3 a4 hc).2 (f201 a1 a2 a3 a4 hr).2 S N ∧ ∃ V' D' U', rh_H (f106 a1 a2 a3 a4 hc).2 (f201 a1 a2 a3 a4 hr).2 S V' D' U' := fun q1 q2 => by
    rw [q1, q2]
    exact ⟨rfl, A, V, D, U, H⟩
  rcases C166 (a := a1) A with ⟨s, lt, h1, e1, e1'⟩ | ⟨e1, e1'⟩
  · obtain ⟨C, n, F, Ds⟩ := (A9 s lt).2
    rcases C164 (x := a2) h1 Ds.2.2.2.1 Ds.2.2.2.2.1 Ds.2.1 with ⟨c, hc1, hx, g1, g1'⟩ | ⟨g1, g1'⟩
    · have C6 := Ds.2.1
      have hp := w6 h1 hx (show s ≤ 12 by omega) (show c < 6 by omega)
      obtain ⟨b1, b2, b3, b4⟩ := Ds.2.2.2.2.2.2.2.1 c hc1
      have K : f106 a1 a2 a3 a4 hc = if f157 a3 0 2 ≠ 0 then (if a3 ≠ 2 then (if f157 a4 0 9 ≠ 0 then f170 s a3 a2 a4 hc else (-1, hc)) else (if f157 a4 0 1 ≠ 0 then f170 s a3 a2 a4 hc else (-1, hc))) else (-1, hc) := by
        rw [f106_eq, e1]
        show (if f164 s a2 hc = 0 then _ else _) = _
        rw [if_neg (by rw [g1]; exact n10)]
        rfl
      have T := f201_eq a1 a2 a3 a4 hr
      rw [if_neg (by rw [e1']; exact n10), if_neg (by rw [g1']; exact n10)] at T
      by_cases q : 0 ≤ a3.toInt ∧ a3.toInt ≤ 2
      · have y1 : f157 a3 0 2 ≠ 0 := by
          rw [w157_1 rfl k_0 k_2 q]
          exact n10
        have y2 : ¬ f173 a3 0 2 = 0 := by
          rw [w173_1 rfl k_0 k_2 q]
          exact n10
        rw [if_neg y2] at T
        rw [if_pos y1] at K
        rcases (show a3.toInt = 0 ∨ a3.toInt = 1 ∨ a3.toInt = 2 by omega) with z | z | z
        · have e3 : a3 = 0 := i_eq z k_0 rfl
          subst e3
          rw [if_pos (by decide +kernel), w_ws] at K
          rw [if_pos (by decide +kernel)] at T
          by_cases v9 : f173 a4 0 9 ≠ 0
          · rw [if_pos v9] at K T
            rw [if_neg (by decide +kernel), i_cl hp] at T
            rw [K]
            exact rq_put A H lt (by omega) (o := 2) (b1 := 0) (Or.inl ⟨rfl, rfl, rfl⟩) hx hp b2 (fun t => by omega) T
          · rw [if_neg v9] at K T
            exact fin K (T.trans bad)
        · have e3 : a3 = 1 := i_eq z k_1 rfl
          subst e3
          rw [if_pos (by decide +kernel), w_ws] at K
          rw [if_pos (by decide +kernel)] at T
          by_cases v9 : f173 a4 0 9 ≠ 0
          · rw [if_pos v9] at K T
            rw [if_pos (by decide +kernel), if_neg (by decide +kernel), i_cl hp] at T
            rw [K]
            exact rq_put A H lt (by omega) (o := 3) (b1 := 1) (Or.inr (Or.inl ⟨rfl, rfl, rfl⟩)) hx hp b3 (fun t => by omega) T
          · rw [if_neg v9] at K T
            exact fin K (T.trans bad)
        · have e3 : a3 = 2 := i_eq z k_2 rfl
          subst e3
          rw [if_neg (by decide +kernel), w_ws] at K
          rw [if_neg (by decide +kernel)] at T
          by_cases v9 : f173 a4 0 1 ≠ 0
          · have x01 : a4 = 0 ∨ a4 = 1 := by
              by_cases q4 : 0 ≤ a4.toInt ∧ a4.toInt ≤ 1
              · rcases (show a4.toInt = 0 ∨ a4.toInt = 1 by omega) with t | t
                · exact Or.inl (i_eq t k_0 rfl)
                · exact Or.inr (i_eq t k_1 rfl)
              · exact absurd (w173_0 rfl k_0 k_1 q4) v9
            rw [if_pos v9] at K T
            rw [if_pos (by decide +kernel), if_pos (by decide +kernel), i_cl hp] at T
            rw [K]
            rcases hb (6 * s + c) with t | t
            · rw [if_pos t] at T
              exact rq_put A H lt (by omega) (o := 4) (b1 := 2) (w := 0) (Or.inr (Or.inr (Or.inr ⟨rfl, rfl, rfl⟩))) hx hp (b4.trans t) (fun _ => ⟨Or.inl rfl, x01⟩) T
            · rw [if_neg (by rw [t]; exact n10)] at T
              exact rq_put A H lt (by omega) (o := 4) (b1 := 2) (w := 1) (Or.inr (Or.inr (Or.inr ⟨rfl, rfl, rfl⟩))) hx hp (b4.trans t) (fun _ => ⟨Or.inr rfl, x01⟩) T
          · rw [if_neg v9] at K T
            exact fin K (T.trans bad)
      · rw [if_neg (by rw [w157_0 rfl k_0 k_2 q]; exact fun t => t rfl)] at K
        rw [if_pos (w173_0 rfl k_0 k_2 q)] at T
        exact fin K (T.trans bad)
    · refine fin ?_ ?_
      · rw [f106_eq, e1]
        show (if f164 s a2 hc = 0 then _ else _) = _
        rw [if_pos g1]
      · rw [f201_eq, if_neg (by rw [e1']; exact n10), if_pos g1', bad]
  · refine fin ?_ ?_
    · rw [f106_eq, e1]
      rfl
    · rw [f201_eq, if_pos e1', bad]
end RFF
/-! ===== crack and stroke ===== -/
section RGG
variable {h h' g hc hr gc gr : mx_H} {S N s i j n m k c C F u v o D U E : Nat} {a a1 a2 a3 a4 a5 b1 p x y d e w : Int32} {V : Nat → Nat → Nat → Int}
theorem pk_v {X Y : Int} (hx : x.toInt = X) (hy : y.toInt = Y) (b : 0 ≤ X ∧ X ≤ 99 ∧ 0 ≤ Y ∧ Y ≤ 99) : (f65 x y).toInt = 10 * X + Y := by
  rw [f65_eq]
  exact i_add (i_mul k_10 hx (by omega) (by omega)) hy (by omega) (by omega)
theorem pk_d {X Y : Int} (hw : w.toInt = 10 * X + Y) (b : 0 ≤ X ∧ X ≤ 9 ∧ 0 ≤ Y ∧ Y ≤ 9) : (w / 10).toInt = X ∧ (w - w / 10 * 10).toInt = Y := by
  have e := i_div (x := w) (y := 10) (p := (10 * X + Y).toNat) (q := 10) (by omega) rfl
  have e1 : (w / 10).toInt = X := by
    rw [e]
    omega
  refine ⟨e1, ?_⟩
  rw [i_sub hw (i_mul e1 k_10 (by omega) (by omega)) (by omega) (by omega)]
  omega
theorem C67p (ha : a2.toInt = (k : Int)) : f67 s 4 a2 w h = mx_uI (mx_uI h (.inr (s, 7)) k (w / 10)) (.inr (s, 8)) k (w - w / 10 * 10) := by
  rw [f67_eq, if_neg (by decide +kernel), if_neg (by decide +kernel), if_neg (by decide +kernel), if_neg (by decide +kernel), g67_72_eq, i_cl ha]
theorem C66p (ha : a2.toInt = (k : Int)) : f66 s 4 a2 h = f65 (h.2.1 (.inr (s, 7)) k) (h.2.1 (.inr (s, 8)) k) := by
  rw [f66_eq, if_neg (by decide +kernel), if_neg (by decide +kernel), if_neg (by decide +kernel), if_neg (by decide +kernel), g66_60_eq, i_cl ha]
theorem C170p (ha : a2.toInt = (k : Int)) : f170 s 4 a2 x h = if f65 (h.2.1 (.inr (s, 7)) k) (h.2.1 (.inr (s, 8)) k) = x then (f65 (h.2.1 (.inr (s, 7)) k) (h.2.1 (.inr (s, 8)) k), h) else (f65 (h.2.1 (.inr (s, 7)) k) (h.2.1 (.inr (s, 8)) k), f17 s 4 a2 (f65 (h.2.1 (.inr (s, 7)) k) (h.2.1 (.inr (s, 8)) k)) x (mx_uI (mx_uI h (.inr (s, 7)) k (x / 10)) (.inr (s, 8)) k (x - x / 10 * 10))) := by
  rw [f170_eq, C66p ha, C67p ha]
  rfl
theorem R200p : f200 3 p x a5 h = f199 p (h.2.1 (.inl 111) (Int32.toNatClampNeg p)) x h := by
  rw [f200_eq, if_neg (by decide +kernel), if_neg (by decide +kernel), if_neg (by decide +kernel), if_pos rfl, g200_75_eq]
  rfl
theorem R200q : f200 4 p x y h = f199 p x y h := by
  rw [f200_eq, if_neg (by decide +kernel), if_neg (by decide +kernel), if_neg (by decide +kernel), if_neg (by decide +kernel), if_pos rfl, g200_90_eq]
  rfl
/-- what the bounds of stiff and crack say -/
def rb_9 (hr : mx_H) : Prop := ∀ i, (0 ≤ rD hr (.inl 111) i ∧ rD hr (.inl 111) i ≤ 9) ∧ 0 ≤ rD hr (.inl 112) i ∧ rD hr (.inl 112) i ≤ 9
set_option maxHeartbeats 8000000 in
theorem rs_crack (A : rs_A hc hr S N) (H : rh_H hc hr S V D U) (h9 : rb_9 hr) : (f107 a1 a2 a3 a4 hc).1 = (f202 a1 a2 a3 a4 hr).1 ∧ rs_A (f107 a1 a2 a3 a4 hc).2 (f202 a1 a2 a3 a4 hr).2 S N ∧ ∃ V' D' U', rh_H (f107 a1 a2 a3 a4 hc).2 (f202 a1 a2 a3 a4 hr).2 S V' D' U' := by
  obtain ⟨A1, A2, A3, A4, A5, A6, A7, A8, A9, A10⟩ := id A
  have fin : ∀ {x y : Int32}, f107 a1 a2 a3 a4 hc = (x, hc) → f202 a1 a2 a3 a4 hr = (y, hr) → x = y → (f107 a1 a2 a3 a4 hc).1 = (f202 a1 a2 a3 a4 hr).1 ∧ rs_A (f107 a1 a2 a3 a4 hc).2 (f202 a1 a2 a3 a4 hr).2 S N ∧ ∃ V' D' U', rh_H (f107 a1 a2 a3 a4 hc).2 (f202 a1 a2 a3 a4 hr).2 S V' D' U' := fun q1 q2 q3 => by
    rw [q1, q2]
    exact ⟨q3, A, V, D, U, H⟩
  have K := f107_eq a1 a2 a3 a4 hc
  have T := f202_eq a1 a2 a3 a4 hr
  rcases C166 (a := a1) A with ⟨s, lt, h1, e1, e1'⟩ | ⟨e1, e1'⟩
  · obtain ⟨C, n, F, Ds⟩ := (A9 s lt).2
    have C6 := Ds.2.1
    have n15 : n ≤ 15 := by
      rw [Ds.2.2.2.2.2.2.2.2.2.2.2.1]
      exact sd_C_15 _
    rw [if_neg (by rw [e1']; exact n10)] at T
    rcases C164 (x := a2) h1 Ds.2.2.2.1 Ds.2.2.2.2.1 Ds.2.1 with ⟨u, hu, hx, g1, g1'⟩ | ⟨g1, g1'⟩
    · rcases C164 (x := a3) h1 Ds.2.2.2.1 Ds.2.2.2.2.1 Ds.2.1 with ⟨v, hv, hy, g2, g2'⟩ | ⟨g2, g2'⟩
      · rw [if_neg (by rw [g1']; exact n10), if_pos (by rw [g2']; exact n10)] at T
        have K' : f107 a1 a2 a3 a4 hc = if f157 a4 0 9 ≠ 0 then (if 0 ≤ f61 s a2 a3 hc then (if a4 ≤ hc.2.1 (.inr (s, 7)) (Int32.toNatClampNeg (f61 s a2 a3 hc)) then ((f170 s 4 (f61 s a2 a3 hc) (f65 (hc.2.1 (.inr (s, 7)) (Int32.toNatClampNeg (f61 s a2 a3 hc))) a4) hc).1 - (f170 s 4 (f61 s a2 a3 hc) (f65 (hc.2.1 (.inr (s, 7)) (Int32.toNatClampNeg (f61 s a2 a3 hc))) a4) hc).1 / 10 * 10, (f170 s 4 (f61 s a2 a3 hc) (f65 (hc.2.1 (.inr (s, 7)) (Int32.toNatClampNeg (f61 s a2 a3 hc))) a4) hc).2) else (-1, hc)) else (-2, hc)) else (-1, hc) := by
          rw [K, e1]
          show (if f164 s a2 hc = 0 then _ else if f164 s a3 hc = 0 then _ else _) = _
          rw [if_neg (by rw [g1]; exact n10), if_neg (by rw [g2]; exact n10)]
          rfl
        clear K
        have K := K'
        clear K'
        rw [w_ws] at K
        rcases rs_pb (a := a1) Ds n15 A2 (by omega) h1 hx hy hu hv with ⟨k, hk, ne, ek, Q, f1, W⟩ | ⟨ek, un⟩
        · have nxy : ¬ a2 = a3 := i_ne hx hy (by omega)
          obtain ⟨q1, q2, q3, q4, q5, q6, q7, q8, q9⟩ := rs_k.b Q
          obtain ⟨⟨s1, s2⟩, c1, c2⟩ := h9 (36 * s + 6 * u + v)
          have hX : rD hc (.inr (s, 7)) k = rD hr (.inl 111) (36 * s + 6 * u + v) := congrArg Int32.toInt q8.symm
          have hC : rD hc (.inr (s, 8)) k = rD hr (.inl 112) (36 * s + 6 * u + v) := congrArg Int32.toInt q9.symm
          rw [if_pos (show 0 ≤ f61 s a2 a3 hc from i_le k_0 ek (by omega)), i_cl ek] at K
          rw [if_neg nxy, if_pos (by rw [f1]; exact n10)] at T
          have T2 : f202 a1 a2 a3 a4 hr = if f173 a4 0 (hr.2.1 (.inl 111) (36 * s + 6 * u + v)) ≠ 0 then (if hr.2.1 (.inl 112) (36 * s + 6 * u + v) ≠ a4 then (hr.2.1 (.inl 112) (36 * s + 6 * u + v), f200 3 (f179 a1 a2 a3) a4 0 (f198 3 (f179 a1 a2 a3) (hr.2.1 (.inl 112) (36 * s + 6 * u + v)) a4 0 hr)) else (hr.2.1 (.inl 112) (36 * s + 6 * u + v), hr)) else (-1, hr) := by
            rw [T]
            show (if f173 a4 0 (hr.2.1 (.inl 111) (Int32.toNatClampNeg (f179 a1 a2 a3))) ≠ 0 then (if hr.2.1 (.inl 112) (Int32.toNatClampNeg (f179 a1 a2 a3)) ≠ a4 then (hr.2.1 (.inl 112) (Int32.toNatClampNeg (f179 a1 a2 a3)), f200 3 (f179 a1 a2 a3) a4 0 (f198 3 (f179 a1 a2 a3) (hr.2.1 (.inl 112) (Int32.toNatClampNeg (f179 a1 a2 a3))) a4 0 hr)) else (hr.2.1 (.inl 112) (Int32.toNatClampNeg (f179 a1 a2 a3)), hr)) else (-1, hr)) = _
            rw [i_cl W]
          by_cases q : 0 ≤ a4.toInt ∧ a4.toInt ≤ rD hr (.inl 111) (36 * s + 6 * u + v)
          · rw [if_pos (by rw [w173_1 rfl k_0 k_9 (show 0 ≤ a4.toInt ∧ a4.toInt ≤ 9 by omega)]; exact n10), if_pos (i_le rfl hX (by omega))] at K
            rw [if_pos (by rw [w173_1 rfl k_0 rfl q]; exact n10)] at T2
            have pv := pk_v (x := hc.2.1 (.inr (s, 7)) k) (y := hc.2.1 (.inr (s, 8)) k) hX hC (by omega)
            have pw := pk_v (x := hc.2.1 (.inr (s, 7)) k) (y := a4) hX rfl (by omega)
            obtain ⟨pd, pe⟩ := pk_d pw (by omega)
            have ed : f65 (hc.2.1 (.inr (s, 7)) k) a4 / 10 = hc.2.1 (.inr (s, 7)) k := i_eq pd hX rfl
            have ee : f65 (hc.2.1 (.inr (s, 7)) k) a4 - f65 (hc.2.1 (.inr (s, 7)) k) a4 / 10 * 10 = a4 := i_eq pe rfl rfl
            have em : f65 (hc.2.1 (.inr (s, 7)) k) (hc.2.1 (.inr (s, 8)) k) - f65 (hc.2.1 (.inr (s, 7)) k) (hc.2.1 (.inr (s, 8)) k) / 10 * 10 = hr.2.1 (.inl 112) (36 * s + 6 * u + v) := i_eq (pk_d pv (by omega)).2 rfl rfl
            have L := C170p (s := s) (h := hc) (x := f65 (hc.2.1 (.inr (s, 7)) k) a4) ek
            rw [ee, ed] at L
            by_cases c : hr.2.1 (.inl 112) (36 * s + 6 * u + v) = a4
            · rw [if_pos (i_eq pv pw (by
                have := congrArg Int32.toInt c
                unfold rD
                omega))] at L
              rw [L] at K
              rw [if_neg (fun z => z c)] at T2
              exact fin K T2 em
            · rw [if_neg (i_ne pv pw (fun z => c (i_eq rfl rfl (by unfold rD at z; omega))))] at L
              rw [L] at K
              rw [if_pos c] at T2
              have fr := R198f (a1 := 3) (a2 := f179 a1 a2 a3) (a3 := hr.2.1 (.inl 112) (36 * s + 6 * u + v)) (a4 := a4) (a5 := 0) H.2.2.1 (by have := H.2.2.2.2.1; omega)
              have r3 : ∀ i, (f198 3 (f179 a1 a2 a3) (hr.2.1 (.inl 112) (36 * s + 6 * u + v)) a4 0 hr).2.1 (.inl 113) i = hr.2.1 (.inl 113) i := fun i => fr.2.2.2 113 i (by omega) (by omega)
              have Wp := R199 (hr := f198 3 (f179 a1 a2 a3) (hr.2.1 (.inl 112) (36 * s + 6 * u + v)) a4 0 hr) (d := hc.2.1 (.inr (s, 7)) k) (e := a4) (b := F + k) W (by omega) (by omega) ne (by omega) (by unfold rD; rw [r3]; exact q6) (by unfold rD; rw [r3]; exact q7) (by have := Ds.2.2.1; omega)
              rw [K, T2, R200p, i_cl W, fr.2.2.2 111 _ (by omega) (by omega), q8]
              exact ⟨em, rq_piece (X := rD hr (.inl 111) (36 * s + 6 * u + v)) (Y := rD hr (.inl 111) (36 * s + 6 * u + v)) (cb := rD hr (.inl 112) (36 * s + 6 * u + v)) (ca := a4.toInt) A H lt Ds hk Q ek W pv pw (by have := rs_k.le Q; omega) rfl hX hX (Or.inl ⟨rfl, rfl, rfl, rfl⟩) Wp⟩
          · rw [if_neg (by rw [w173_0 rfl k_0 rfl q]; exact fun z => z rfl)] at T2
            by_cases q9 : 0 ≤ a4.toInt ∧ a4.toInt ≤ 9
            · rw [if_pos (by rw [w173_1 rfl k_0 k_9 q9]; exact n10), if_neg (i_nle rfl hX (by omega))] at K
              exact fin K T2 rfl
            · rw [if_neg (by rw [w173_0 rfl k_0 k_9 q9]; exact fun z => z rfl)] at K
              exact fin K T2 rfl
        · rw [ek, if_neg (show ¬ (0 : Int32) ≤ -1 by decide +kernel)] at K
          have T2 : f202 a1 a2 a3 a4 hr = if f173 a4 0 9 = 0 then (-1, hr) else (-2, hr) := by
            rcases un with un | ⟨un, z⟩
            · rw [T, if_pos (i_eq hx hy (by omega))]
            · rw [T, if_neg (i_ne hx hy (by omega)), if_neg (by rw [z]; exact fun t => t rfl)]
          by_cases z : f173 a4 0 9 = 0
          · rw [if_neg (fun t => t z)] at K
            rw [if_pos z] at T2
            exact fin K T2 rfl
          · rw [if_pos z] at K
            rw [if_neg z] at T2
            exact fin K T2 rfl
      · rw [if_neg (by rw [g1']; exact n10), if_neg (by rw [g2']; exact fun z => z rfl)] at T
        refine fin (x := -1) ?_ T rfl
        rw [K, e1]
        show (if f164 s a2 hc = 0 then _ else if f164 s a3 hc = 0 then _ else _) = _
        rw [if_neg (by rw [g1]; exact n10), if_pos g2]
    · rw [if_pos g1'] at T
      refine fin (x := -1) ?_ T rfl
      rw [K, e1]
      show (if f164 s a2 hc = 0 then _ else _) = _
      rw [if_pos g1]
  · rw [if_pos e1'] at T
    refine fin (x := -1) ?_ T rfl
    rw [K, e1]
    rfl
/-- a stroke on a corner -/
theorem rq_heavy (A : rs_A hc hr S N) (H : rh_H hc hr S V D U) (lt : s < S) (Ds : rs_D hc hr N s C n F) (hc1 : c < C) (h1 : a1.toInt = (s : Int)) (hx : a2.toInt = (c : Int)) (hv : 1 ≤ rD hr (.inl 107) (6 * s + c)) {rc rr : Int32 × mx_H}
    (K : rc = if 1 < hc.2.1 (.inr (s, 1)) c then ((f170 s 3 a2 (hc.2.1 (.inr (s, 1)) c - 1) hc).2.2.1 (.inr (s, 1)) c, (f170 s 3 a2 (hc.2.1 (.inr (s, 1)) c - 1) hc).2) else (-4, hc))
    (T : rr = if hr.2.1 (.inl 107) (6 * s + c) ≠ 1 then ((f198 5 (6 * a1 + a2) (hr.2.1 (.inl 107) (6 * s + c)) (hr.2.1 (.inl 107) (6 * s + c) - 1) 0 hr).2.1 (.inl 107) (6 * s + c) - 1, mx_uI (f198 5 (6 * a1 + a2) (hr.2.1 (.inl 107) (6 * s + c)) (hr.2.1 (.inl 107) (6 * s + c) - 1) 0 hr) (.inl 107) (6 * s + c) ((f198 5 (6 * a1 + a2) (hr.2.1 (.inl 107) (6 * s + c)) (hr.2.1 (.inl 107) (6 * s + c) - 1) 0 hr).2.1 (.inl 107) (6 * s + c) - 1)) else (-4, hr)) :
    rc.1 = rr.1 ∧ rs_A rc.2 rr.2 S N ∧ ∃ V' D' U', rh_H rc.2 rr.2 S V' D' U' := by
  obtain ⟨A1, A2, A3, A4, A5, A6, A7, A8, A9, A10⟩ := id A
  have C6 := Ds.2.1
  obtain ⟨b1, -, -, -⟩ := Ds.2.2.2.2.2.2.2.1 c hc1
  have hp := w6 h1 hx (show s ≤ 12 by omega) (show c < 6 by omega)
  have hX : rD hc (.inr (s, 1)) c = rD hr (.inl 107) (6 * s + c) := congrArg Int32.toInt b1
  by_cases q : hr.2.1 (.inl 107) (6 * s + c) = 1
  · rw [if_neg (i_nlt k_1 hX (by unfold rD; rw [q, k_1]; omega))] at K
    rw [if_neg (fun z => z q)] at T
    rw [K, T]
    exact ⟨rfl, A, V, D, U, H⟩
  · have q2 : 2 ≤ rD hr (.inl 107) (6 * s + c) := by
      have : rD hr (.inl 107) (6 * s + c) ≠ 1 := fun z => q (i_eq z k_1 rfl)
      omega
    have bb := i_b (hr.2.1 (.inl 107) (6 * s + c))
    rw [if_pos (i_lt k_1 hX (by omega))] at K
    rw [if_pos q] at T
    have fr := R198f (a1 := 5) (a2 := 6 * a1 + a2) (a3 := hr.2.1 (.inl 107) (6 * s + c)) (a4 := hr.2.1 (.inl 107) (6 * s + c) - 1) (a5 := 0) H.2.2.1 (by have := H.2.2.2.2.1; omega)
    rw [fr.2.2.2 107 _ (by omega) (by omega)] at T
    have m1 : (hr.2.1 (.inl 107) (6 * s + c) - 1).toInt = rD hr (.inl 107) (6 * s + c) - 1 := i_sub rfl k_1 (by unfold rD at q2 ⊢; omega) (by unfold rD at q2 ⊢; omega)
    have L := C170c (s := s) (h := hc) (x := hc.2.1 (.inr (s, 1)) c - 1) (b1 := 5) (o := 1) (a1 := 3) (Or.inr (Or.inr (Or.inl ⟨rfl, rfl, rfl⟩))) hx
    rw [b1] at L K
    rw [if_neg (i_ne rfl m1 (by unfold rD; omega))] at L
    rw [L] at K
    have fc := C17f (s := s) (a2 := 3) (a3 := a2) (a4 := hr.2.1 (.inl 107) (6 * s + c)) (a5 := hr.2.1 (.inl 107) (6 * s + c) - 1) (h := mx_uI hc (.inr (s, 1)) c (hr.2.1 (.inl 107) (6 * s + c) - 1)) (D := D) H.1 (by have := H.2.2.2.2.1; omega) H.R
    rw [K, T]
    refine ⟨?_, rq_corner A H lt (by omega) (o := 1) (b1 := 5) (Or.inr (Or.inr (Or.inl ⟨rfl, rfl, rfl⟩))) hx hp b1 (fun t => by omega)⟩
    show (f17 s 3 a2 (hr.2.1 (.inl 107) (6 * s + c)) (hr.2.1 (.inl 107) (6 * s + c) - 1) (mx_uI hc (.inr (s, 1)) c (hr.2.1 (.inl 107) (6 * s + c) - 1))).2.1 (.inr (s, 1)) c = _
    rw [fc.2.2.1 (s, 1) c, rI_s]
set_option maxHeartbeats 8000000 in
/-- a stroke on a piece -/
theorem rq_filed (A : rs_A hc hr S N) (H : rh_H hc hr S V D U) (h9 : rb_9 hr) (lt : s < S) (Ds : rs_D hc hr N s C n F) (hk : k < n) (Q : rs_k hc hr s C F k u v ∨ rs_k hc hr s C F k v u) (ek : a2.toInt = (k : Int)) (W : p.toInt = ((36 * s + 6 * u + v : Nat) : Int)) (hv : 1 ≤ rD hr (.inl 111) (36 * s + 6 * u + v)) {rc rr : Int32 × mx_H}
    (K : rc = if 1 ≤ hc.2.1 (.inr (s, 7)) k - 1 then (hc.2.1 (.inr (s, 7)) k - 1, (f170 s 4 a2 (f65 (hc.2.1 (.inr (s, 7)) k - 1) (if hc.2.1 (.inr (s, 7)) k - 1 < hc.2.1 (.inr (s, 8)) k then hc.2.1 (.inr (s, 7)) k - 1 else hc.2.1 (.inr (s, 8)) k)) hc).2) else (-4, hc))
    (T : rr = if hr.2.1 (.inl 111) (36 * s + 6 * u + v) ≠ 1 then ((f199 p ((f198 4 p (hr.2.1 (.inl 111) (36 * s + 6 * u + v)) (hr.2.1 (.inl 111) (36 * s + 6 * u + v) - 1) (hr.2.1 (.inl 112) (36 * s + 6 * u + v)) hr).2.1 (.inl 111) (36 * s + 6 * u + v) - 1) (f174 ((f198 4 p (hr.2.1 (.inl 111) (36 * s + 6 * u + v)) (hr.2.1 (.inl 111) (36 * s + 6 * u + v) - 1) (hr.2.1 (.inl 112) (36 * s + 6 * u + v)) hr).2.1 (.inl 112) (36 * s + 6 * u + v)) ((f198 4 p (hr.2.1 (.inl 111) (36 * s + 6 * u + v)) (hr.2.1 (.inl 111) (36 * s + 6 * u + v) - 1) (hr.2.1 (.inl 112) (36 * s + 6 * u + v)) hr).2.1 (.inl 111) (36 * s + 6 * u + v) - 1)) (f198 4 p (hr.2.1 (.inl 111) (36 * s + 6 * u + v)) (hr.2.1 (.inl 111) (36 * s + 6 * u + v) - 1) (hr.2.1 (.inl 112) (36 * s + 6 * u + v)) hr)).2.1 (.inl 111) (36 * s + 6 * u + v),
      f199 p ((f198 4 p (hr.2.1 (.inl 111) (36 * s + 6 * u + v)) (hr.2.1 (.inl 111) (36 * s + 6 * u + v) - 1) (hr.2.1 (.inl 112) (36 * s + 6 * u + v)) hr).2.1 (.inl 111) (36 * s + 6 * u + v) - 1) (f174 ((f198 4 p (hr.2.1 (.inl 111) (36 * s + 6 * u + v)) (hr.2.1 (.inl 111) (36 * s + 6 * u + v) - 1) (hr.2.1 (.inl 112) (36 * s + 6 * u + v)) hr).2.1 (.inl 112) (36 * s + 6 * u + v)) ((f198 4 p (hr.2.1 (.inl 111) (36 * s + 6 * u + v)) (hr.2.1 (.inl 111) (36 * s + 6 * u + v) - 1) (hr.2.1 (.inl 112) (36 * s + 6 * u + v)) hr).2.1 (.inl 111) (36 * s + 6 * u + v) - 1)) (f198 4 p (hr.2.1 (.inl 111) (36 * s + 6 * u + v)) (hr.2.1 (.inl 111) (36 * s + 6 * u + v) - 1) (hr.2.1 (.inl 112) (36 * s + 6 * u + v)) hr)) else (-4, hr)) :
    rc.1 = rr.1 ∧ rs_A rc.2 rr.2 S N ∧ ∃ V' D' U', rh_H rc.2 rr.2 S V' D' U' := by
  obtain ⟨A1, A2, A3, A4, A5, A6, A7, A8, A9, A10⟩ := id A
  obtain ⟨q1, q2, q3, q4, q5, q6, q7, q8, q9⟩ := rs_k.b Q
  have C6 := Ds.2.1
  obtain ⟨⟨s1, s2⟩, c1, c2⟩ := h9 (36 * s + 6 * u + v)
  generalize hst : hr.2.1 (.inl 111) (36 * s + 6 * u + v) = st at T q8
  generalize hcr : hr.2.1 (.inl 112) (36 * s + 6 * u + v) = cr at T q9
  unfold rD at s1 s2 c1 c2 hv
  rw [hst] at s1 s2 hv
  rw [hcr] at c1 c2
  rw [← q8, ← q9] at K
  have m1 : (st - 1).toInt = st.toInt - 1 := i_sub rfl k_1 (by omega) (by omega)
  by_cases q : st = 1
  · rw [if_neg (i_nle k_1 m1 (by rw [q, k_1]; omega))] at K
    rw [if_neg (fun z => z q)] at T
    rw [K, T]
    exact ⟨rfl, A, V, D, U, H⟩
  · have g2 : 2 ≤ st.toInt := by
      have : st.toInt ≠ 1 := fun z => q (i_eq z k_1 rfl)
      omega
    rw [if_pos (i_le k_1 m1 (by omega))] at K
    rw [if_pos q] at T
    have fr := R198f (a1 := 4) (a2 := p) (a3 := st) (a4 := st - 1) (a5 := cr) H.2.2.1 (by have := H.2.2.2.2.1; omega)
    rw [fr.2.2.2 111 _ (by omega) (by omega), fr.2.2.2 112 _ (by omega) (by omega), hst, hcr] at T
    have mm : (if st - 1 < cr then st - 1 else cr) = f174 cr (st - 1) := by
      rw [f174_eq]
      by_cases z : st - 1 < cr
      · have z' := Int32.lt_iff_toInt_lt.mp z
        rw [if_pos z, if_pos (i_le m1 rfl (by omega))]
      · have z' : cr.toInt ≤ (st - 1).toInt := Int.not_lt.mp (fun t => z (Int32.lt_iff_toInt_lt.mpr t))
        rw [if_neg z]
        by_cases y : st - 1 ≤ cr
        · have y' := Int32.le_iff_toInt_le.mp y
          rw [if_pos y]
          exact i_eq rfl m1 (by omega)
        · rw [if_neg y]
    have mv : (f174 cr (st - 1)).toInt = min cr.toInt (st.toInt - 1) := by
      rw [f174_eq]
      by_cases y : st - 1 ≤ cr
      · have y' := Int32.le_iff_toInt_le.mp y
        rw [if_pos y]
        omega
      · have y' : cr.toInt < (st - 1).toInt := Int.not_le.mp (fun t => y (Int32.le_iff_toInt_le.mpr t))
        rw [if_neg y]
        omega
    rw [mm] at K
    generalize hmn : f174 cr (st - 1) = mn at K T mv
    have pv := pk_v (x := st) (y := cr) rfl rfl (by omega)
    have pw := pk_v (x := st - 1) (y := mn) m1 mv (by omega)
    obtain ⟨pd, pe⟩ := pk_d pw (by omega)
    have ed : f65 (st - 1) mn / 10 = st - 1 := i_eq pd m1 rfl
    have ee : f65 (st - 1) mn - f65 (st - 1) mn / 10 * 10 = mn := i_eq pe mv rfl
    have L := C170p (s := s) (h := hc) (x := f65 (st - 1) mn) ek
    rw [← q8, ← q9, ee, ed, if_neg (i_ne pv pw (by omega))] at L
    rw [L] at K
    have r3 : ∀ i, (f198 4 p st (st - 1) cr hr).2.1 (.inl 113) i = hr.2.1 (.inl 113) i := fun i => fr.2.2.2 113 i (by omega) (by omega)
    have Wp := R199 (hr := f198 4 p st (st - 1) cr hr) (d := st - 1) (e := mn) (b := F + k) W (by omega) (by omega) q3 (by omega) (by unfold rD; rw [r3]; exact q6) (by unfold rD; rw [r3]; exact q7) (by have := Ds.2.2.1; omega)
    rw [K, T]
    refine ⟨?_, rq_piece (X := st.toInt) (Y := st.toInt - 1) (cb := cr.toInt) (ca := min cr.toInt (st.toInt - 1)) A H lt Ds hk Q ek W pv pw (by
      have le := rs_k.le Q
      unfold rD at le
      rw [← q8, ← q9] at le
      omega) mv (by unfold rD; rw [← q8]) m1 (Or.inr ⟨rfl, rfl, m1, rfl, rfl⟩) Wp⟩
    show st - 1 = _
    rw [Wp.2.2.2.1, if_neg (by omega), if_pos rfl]
set_option maxHeartbeats 8000000 in
theorem rs_stroke (A : rs_A hc hr S N) (H : rh_H hc hr S V D U) (h9 : rb_9 hr) (k2 : ∀ s c : Nat, s < S → (c : Int) < rD hr (.inl 106) s → 1 ≤ rD hr (.inl 107) (6 * s + c)) (k3 : ∀ p : Nat, p < 36 * S → 0 < rD hr (.inl 113) p → 1 ≤ rD hr (.inl 111) p) : (f108 a1 a2 a3 hc).1 = (f203 a1 a2 a3 hr).1 ∧ rs_A (f108 a1 a2 a3 hc).2 (f203 a1 a2 a3 hr).2 S N ∧ ∃ V' D' U', rh_H (f108 a1 a2 a3 hc).2 (f203 a1 a2 a3 hr).2 S V' D' U' := by
  obtain ⟨A1, A2, A3, A4, A5, A6, A7, A8, A9, A10⟩ := id A
  have b31 : g203_31 hr = (-1, hr) := g203_31_eq hr
  have b118 : g203_118 hr = (-2, hr) := g203_118_eq hr
  have fin : ∀ {x : Int32}, f108 a1 a2 a3 hc = (x, hc) → f203 a1 a2 a3 hr = (x, hr) → (f108 a1 a2 a3 hc).1 = (f203 a1 a2 a3 hr).1 ∧ rs_A (f108 a1 a2 a3 hc).2 (f203 a1 a2 a3 hr).2 S N ∧ ∃ V' D' U', rh_H (f108 a1 a2 a3 hc).2 (f203 a1 a2 a3 hr).2 S V' D' U' := fun q1 q2 => by
    rw [q1, q2]
    exact ⟨rfl, A, V, D, U, H⟩
  have K := f108_eq a1 a2 a3 hc
  have T := f203_eq a1 a2 a3 hr
  rcases C166 (a := a1) A with ⟨s, lt, h1, e1, e1'⟩ | ⟨e1, e1'⟩
  · obtain ⟨C, n, F, Ds⟩ := (A9 s lt).2
    have C6 := Ds.2.1
    have n15 : n ≤ 15 := by
      rw [Ds.2.2.2.2.2.2.2.2.2.2.2.1]
      exact sd_C_15 _
    rw [if_neg (by rw [e1']; exact n10)] at T
    rcases C164 (x := a2) h1 Ds.2.2.2.1 Ds.2.2.2.2.1 Ds.2.1 with ⟨u, hu, hx, g1, g1'⟩ | ⟨g1, g1'⟩
    · rw [if_neg (by rw [g1']; exact n10)] at T
      have hp := w6 h1 hx (show s ≤ 12 by omega) (show u < 6 by omega)
      by_cases m : a3 = -1
      · rw [if_pos m, g203_33_eq, if_neg (fun z => z m), i_cl hp] at T
        refine rq_heavy A H lt Ds hu h1 hx (k2 s u lt (by have := Ds.2.2.2.2.1; unfold rD at this ⊢; omega)) ?_ (T.trans ?_)
        · rw [K, e1]
          show (if f164 s a2 hc = 0 then _ else if a3 = -1 then (if a3 ≠ -1 then _ else if 1 < hc.2.1 (.inr (s, 1)) (Int32.toNatClampNeg a2) then ((f170 s 3 a2 (hc.2.1 (.inr (s, 1)) (Int32.toNatClampNeg a2) - 1) hc).2.2.1 (.inr (s, 1)) (Int32.toNatClampNeg a2), (f170 s 3 a2 (hc.2.1 (.inr (s, 1)) (Int32.toNatClampNeg a2) - 1) hc).2) else (-4, hc)) else _) = _
          rw [if_neg (by rw [g1]; exact n10), if_pos m, if_neg (fun z => z m), i_cl hx]
        · by_cases q : hr.2.1 (.inl 107) (6 * s + u) ≠ 1
          · rw [if_pos q, if_pos q]
            simp only [x_h]
            rw [rI_s]
          · rw [if_neg q, if_neg q]
      · rw [if_neg m] at T
        rcases C164 (x := a3) h1 Ds.2.2.2.1 Ds.2.2.2.2.1 Ds.2.1 with ⟨v, hv, hy, g2, g2'⟩ | ⟨g2, g2'⟩
        · rw [if_pos (by rw [g2']; exact n10), g203_33_eq, if_pos m] at T
          have K' : f108 a1 a2 a3 hc = if 0 ≤ f61 s a2 a3 hc then (if 1 ≤ hc.2.1 (.inr (s, 7)) (Int32.toNatClampNeg (f61 s a2 a3 hc)) - 1 then (hc.2.1 (.inr (s, 7)) (Int32.toNatClampNeg (f61 s a2 a3 hc)) - 1, (f170 s 4 (f61 s a2 a3 hc) (f65 (hc.2.1 (.inr (s, 7)) (Int32.toNatClampNeg (f61 s a2 a3 hc)) - 1) (if hc.2.1 (.inr (s, 7)) (Int32.toNatClampNeg (f61 s a2 a3 hc)) - 1 < hc.2.1 (.inr (s, 8)) (Int32.toNatClampNeg (f61 s a2 a3 hc)) then hc.2.1 (.inr (s, 7)) (Int32.toNatClampNeg (f61 s a2 a3 hc)) - 1 else hc.2.1 (.inr (s, 8)) (Int32.toNatClampNeg (f61 s a2 a3 hc)))) hc).2) else (-4, hc)) else (-2, hc) := by
            rw [K, e1]
            show (if f164 s a2 hc = 0 then _ else if a3 = -1 then _ else if f164 s a3 hc ≠ 0 then (if a3 ≠ -1 then _ else _) else _) = _
            rw [if_neg (by rw [g1]; exact n10), if_neg m, if_pos (by rw [g2]; exact n10), if_pos m]
            rfl
          clear K
          rcases rs_pb (a := a1) Ds n15 A2 (by omega) h1 hx hy hu hv with ⟨k, hk, ne, ek, Q, f1, W⟩ | ⟨ek, un⟩
          · obtain ⟨q1, q2, q3, q4, q5, q6, q7, q8, q9⟩ := rs_k.b Q
            rw [if_pos (show 0 ≤ f61 s a2 a3 hc from i_le k_0 ek (by omega)), i_cl ek] at K'
            rw [if_neg (i_ne hx hy (by omega)), if_pos (by rw [f1]; exact n10)] at T
            refine rq_filed (p := f179 a1 a2 a3) A H h9 lt Ds hk Q ek W (k3 _ (by omega) (by rw [q6]; omega)) K' (T.trans ?_)
            show (if hr.2.1 (.inl 111) (Int32.toNatClampNeg (f179 a1 a2 a3)) ≠ 1 then _ else _) = _
            rw [i_cl W]
            rfl
          · rw [ek, if_neg (show ¬ (0 : Int32) ≤ -1 by decide +kernel)] at K'
            refine fin K' ?_
            rcases un with un | ⟨un, z⟩
            · rw [T, if_pos (i_eq hx hy (by omega)), b118]
            · rw [T, if_neg (i_ne hx hy (by omega)), if_neg (by rw [z]; exact fun t => t rfl), b118]
        · rw [if_neg (by rw [g2']; exact fun z => z rfl), b31] at T
          refine fin ?_ T
          rw [K, e1]
          show (if f164 s a2 hc = 0 then _ else if a3 = -1 then _ else if f164 s a3 hc ≠ 0 then _ else _) = _
          rw [if_neg (by rw [g1]; exact n10), if_neg m, if_neg (by rw [g2]; exact fun z => z rfl)]
    · rw [if_pos g1', b31] at T
      refine fin ?_ T
      rw [K, e1]
      show (if f164 s a2 hc = 0 then _ else _) = _
      rw [if_pos g1]
  · rw [if_pos e1', b31] at T
    refine fin ?_ T
    rw [K, e1]
    rfl
end RGG
/-! ===== undo and redo ===== -/
section RHH
variable {h h' g hc hr gc gr kc kr : mx_H} {S N s i j n m k c C F u v o D U E : Nat} {a a1 a2 a3 a4 a5 b1 p x y d e w z : Int32} {V : Nat → Nat → Nat → Int}
/-- what a setting leaves alone -/
def rq_c (h g : mx_H) : Prop := g.1 = h.1 ∧ g.2.2 = h.2.2 ∧ (∀ q i, g.2.1 (.inl q) i = h.2.1 (.inl q) i) ∧ ∀ t q i, q = 0 ∨ q = 5 ∨ q = 6 → g.2.1 (.inr (t, q)) i = h.2.1 (.inr (t, q)) i
def rq_r (h g : mx_H) : Prop := g.1 = h.1 ∧ g.2.2 = h.2.2 ∧ (∀ q i, g.2.1 (.inr q) i = h.2.1 (.inr q) i) ∧ ∀ q i, q < 107 ∨ 112 < q → g.2.1 (.inl q) i = h.2.1 (.inl q) i
/-- the class's side and the reference's, at a corner's entry -/
theorem rq_ac (A : rs_A kc kr S N) (hs : s < S) (R : rh_c kc kr s j) (ew : (w = kc.2.1 (.inl 88) j ∧ x = kr.2.1 (.inl 125) j) ∨ (w = kc.2.1 (.inl 89) j ∧ x = kr.2.1 (.inl 126) j)) :
    rs_A (f67 s (kc.2.1 (.inl 86) j) (kc.2.1 (.inl 87) j) w kc) (f200 (kr.2.1 (.inl 123) j) (kr.2.1 (.inl 124) j) x y kr) S N ∧ rq_c kc (f67 s (kc.2.1 (.inl 86) j) (kc.2.1 (.inl 87) j) w kc) ∧ rq_r kr (f200 (kr.2.1 (.inl 123) j) (kr.2.1 (.inl 124) j) x y kr) ∧ ∀ t i, (f67 s (kc.2.1 (.inl 86) j) (kc.2.1 (.inl 87) j) w kc).2.1 (.inr (t, 7)) i = kc.2.1 (.inr (t, 7)) i := by
  obtain ⟨o, c, c6, q1, q2, q3, q4, q5⟩ := R
  have f : rq_f o (kc.2.1 (.inl 86) j) (kr.2.1 (.inl 123) j) := by
    rcases q5 with ⟨t, z1, z2⟩ | ⟨t, z1, z2⟩ | ⟨t, z1, z2⟩ | ⟨t, z1, z2, -⟩
    · exact Or.inl ⟨t, z1, z2⟩
    · exact Or.inr (Or.inl ⟨t, z1, z2⟩)
    · exact Or.inr (Or.inr (Or.inl ⟨t, z1, z2⟩))
    · exact Or.inr (Or.inr (Or.inr ⟨t, z1, z2⟩))
  have wx : w = x := by
    rcases ew with ⟨z1, z2⟩ | ⟨z1, z2⟩
    · rw [z1, z2, q3]
    · rw [z1, z2, q4]
  have b4 : o = 4 → x = 0 ∨ x = 1 := fun t => by
    rcases q5 with ⟨t', -⟩ | ⟨t', -⟩ | ⟨t', -⟩ | ⟨-, -, -, z1, z2⟩
    · omega
    · omega
    · omega
    · rcases ew with ⟨y1, y2⟩ | ⟨y1, y2⟩
      · rw [y2, ← q3]
        exact z1
      · rw [y2, ← q4]
        exact z2
  obtain ⟨o1, o4⟩ := f.bd
  rw [C67c f q1, R200c f q2 b4, wx]
  refine ⟨A.corner hs o1 o4 c6, ⟨rfl, rfl, fun _ _ => rfl, fun t q i z => rI_a (fun z' => by
    cases z'
    omega)⟩, ⟨rfl, rfl, fun _ _ => rfl, fun q i z => rI_a (fun z' => by
    have := Sum.inl.inj z'
    omega)⟩, fun t i => rI_a (fun z' => by
    cases z'
    omega)⟩
/-- at a piece's entry -/
theorem rq_ap {X cz : Int} (A : rs_A kc kr S N) (hs : s < S) (f86 : kc.2.1 (.inl 86) j = 4) (q87 : rD kc (.inl 87) j = (k : Int)) (kn : (k : Int) < rD kc (.inr (s, 0)) 6) (uv : u < 6 ∧ v < 6 ∧ u ≠ v) (q5 : rD kc (.inr (s, 5)) k = ((min u v : Nat) : Int)) (q6 : rD kc (.inr (s, 6)) k = ((max u v : Nat) : Int)) (q124 : rD kr (.inl 124) j = ((36 * s + 6 * u + v : Nat) : Int))
    (hw : w.toInt = 10 * X + cz) (bX : 0 ≤ X ∧ X ≤ 9 ∧ 0 ≤ cz ∧ cz ≤ 9 ∧ cz ≤ X) (cd : (kr.2.1 (.inl 123) j = 3 ∧ x.toInt = cz ∧ rD kc (.inr (s, 7)) k = X) ∨ (kr.2.1 (.inl 123) j = 4 ∧ x.toInt = X ∧ y.toInt = cz)) :
    rs_A (f67 s (kc.2.1 (.inl 86) j) (kc.2.1 (.inl 87) j) w kc) (f200 (kr.2.1 (.inl 123) j) (kr.2.1 (.inl 124) j) x y kr) S N ∧ rq_c kc (f67 s (kc.2.1 (.inl 86) j) (kc.2.1 (.inl 87) j) w kc) ∧ rq_r kr (f200 (kr.2.1 (.inl 123) j) (kr.2.1 (.inl 124) j) x y kr) ∧ rD (f67 s (kc.2.1 (.inl 86) j) (kc.2.1 (.inl 87) j) w kc) (.inr (s, 7)) k = X ∧ ∀ t i, ¬ (t = s ∧ i = k) → (f67 s (kc.2.1 (.inl 86) j) (kc.2.1 (.inl 87) j) w kc).2.1 (.inr (t, 7)) i = kc.2.1 (.inr (t, 7)) i := by
  obtain ⟨A1, A2, A3, A4, A5, A6, A7, A8, A9, A10⟩ := id A
  obtain ⟨C, n, F, Ds⟩ := (A9 s hs).2
  have n6 := Ds.2.2.2.2.2.1
  have fn := Ds.2.2.1
  obtain ⟨u0, v0, Q0⟩ := Ds.2.2.2.2.2.2.2.2.2.1 k (by omega)
  have p4 := Q0.2.2.2.1
  have p5 := Q0.2.2.2.2.1
  have Q : rs_k kc kr s C F k u v ∨ rs_k kc kr s C F k v u := by
    have t : (u0 = u ∧ v0 = v) ∨ (u0 = v ∧ v0 = u) := by omega
    rcases t with ⟨t1, t2⟩ | ⟨t1, t2⟩
    · rw [t1, t2] at Q0
      exact Or.inl Q0
    · rw [t1, t2] at Q0
      exact Or.inr Q0
  obtain ⟨r1, r2, r3, r4, r5, r6, r7, r8, r9⟩ := rs_k.b Q
  obtain ⟨pd, pe⟩ := pk_d hw (by omega)
  have E : f200 (kr.2.1 (.inl 123) j) (kr.2.1 (.inl 124) j) x y kr = f199 (kr.2.1 (.inl 124) j) (w / 10) (w - w / 10 * 10) kr := by
    rcases cd with ⟨c1, c2, c3⟩ | ⟨c1, c2, c3⟩
    · rw [c1, R200p, i_cl q124, r8, i_eq c3 pd rfl, i_eq c2 pe rfl]
    · rw [c1, R200q, i_eq c2 pd rfl, i_eq c3 pe rfl]
  have W := R199 (hr := kr) (d := w / 10) (e := w - w / 10 * 10) (b := F + k) q124 uv.1 uv.2.1 uv.2.2 (by omega) r6 r7 (by omega)
  rw [E, f86, C67p q87]
  have cl : ∀ t q i, ¬ (t = s ∧ (q = 7 ∨ q = 8) ∧ i = k) → (mx_uI (mx_uI kc (.inr (s, 7)) k (w / 10)) (.inr (s, 8)) k (w - w / 10 * 10)).2.1 (.inr (t, q)) i = kc.2.1 (.inr (t, q)) i := fun t q i z => (if_neg (fun z' => by
    have z1 := z'.1
    have z2 := z'.2
    cases z1
    exact z ⟨rfl, Or.inr rfl, z2⟩)).trans (if_neg (fun z' => by
    have z1 := z'.1
    have z2 := z'.2
    cases z1
    exact z ⟨rfl, Or.inl rfl, z2⟩))
  refine ⟨A.piece2 hs Ds (by omega) Q W (by omega), ⟨rfl, rfl, fun _ _ => rfl, fun t q i z => cl t q i (by omega)⟩, ⟨W.1, W.2.1, W.2.2.1, fun q i z => W.2.2.2.2.2 q i (by omega) (by omega)⟩, ?_, fun t i z => cl t 7 i (fun z' => z ⟨z'.1, z'.2.2⟩)⟩
  unfold rD
  rw [rS (by decide +kernel), rI_s]
  exact pd
def k_19 (h : mx_H) : mx_H := mx_uI (mx_uI h (.inl 84) 0 (h.2.1 (.inl 84) 0 - 1)) (.inl 84) 1 (h.2.1 (.inl 84) 1 + 1)
def r_04 (h : mx_H) : mx_H := mx_uI (mx_uI h (.inl 105) 24 (h.2.1 (.inl 105) 24 - 1)) (.inl 105) 25 (h.2.1 (.inl 105) 25 + 1)
theorem C144 (hD : rD h (.inl 84) 0 = ((E + 1 : Nat) : Int)) (E40 : E < 40) (e85 : h.2.2.2 (.inl 85) E = some (.inr (s, 0))) : f144 h = ((f67 s (h.2.1 (.inl 86) E) (h.2.1 (.inl 87) E) (h.2.1 (.inl 88) E) (k_19 h)).2.1 (.inl 84) 0, f67 s (h.2.1 (.inl 86) E) (h.2.1 (.inl 87) E) (h.2.1 (.inl 88) E) (k_19 h)) := by
  have hE : (h.2.1 (.inl 84) 0 - 1).toInt = (E : Int) := (i_sub hD k_1 (by omega) (by omega)).trans (by omega)
  rw [f144_eq, if_pos (show h.2.1 (.inl 84) 0 ≠ 0 from i_ne hD k_0 (by omega)), f19_eq, if_pos (i_lt k_0 hD (by omega))]
  show x_h (x_opt (ml_sn (h.2.2.2 (.inl 85) (Int32.toNatClampNeg (h.2.1 (.inl 84) 0 - 1)))) (fun j1 => x_opt (ml_sn (h.2.2.2 (.inl 85) (Int32.toNatClampNeg (h.2.1 (.inl 84) 0 - 1)))) (fun j2 => f67 j2 (h.2.1 (.inl 86) (Int32.toNatClampNeg (h.2.1 (.inl 84) 0 - 1))) (h.2.1 (.inl 87) (Int32.toNatClampNeg (h.2.1 (.inl 84) 0 - 1))) (h.2.1 (.inl 88) (Int32.toNatClampNeg (h.2.1 (.inl 84) 0 - 1))) (k_19 h)) h) (k_19 h)) (fun h2 => (h2.2.1 (.inl 84) 0, h2)) = _
  rw [i_cl hE, x_opt_s e85, x_opt_s e85]
  rfl
theorem R204 (hD : rD h (.inl 105) 24 = ((E + 1 : Nat) : Int)) (E40 : E < 40) : f204 h = ((f200 (h.2.1 (.inl 123) E) (h.2.1 (.inl 124) E) (h.2.1 (.inl 125) E) (h.2.1 (.inl 127) E) (r_04 h)).2.1 (.inl 105) 24, f200 (h.2.1 (.inl 123) E) (h.2.1 (.inl 124) E) (h.2.1 (.inl 125) E) (h.2.1 (.inl 127) E) (r_04 h)) := by
  have hE : (h.2.1 (.inl 105) 24 - 1).toInt = (E : Int) := (i_sub hD k_1 (by omega) (by omega)).trans (by omega)
  rw [f204_eq, if_pos (show h.2.1 (.inl 105) 24 ≠ 0 from i_ne hD k_0 (by omega))]
  show ((f200 (h.2.1 (.inl 123) (Int32.toNatClampNeg (h.2.1 (.inl 105) 24 - 1))) (h.2.1 (.inl 124) (Int32.toNatClampNeg (h.2.1 (.inl 105) 24 - 1))) (h.2.1 (.inl 125) (Int32.toNatClampNeg (h.2.1 (.inl 105) 24 - 1))) (h.2.1 (.inl 127) (Int32.toNatClampNeg (h.2.1 (.inl 105) 24 - 1))) (r_04 h)).2.1 (.inl 105) 24, f200 (h.2.1 (.inl 123) (Int32.toNatClampNeg (h.2.1 (.inl 105) 24 - 1))) (h.2.1 (.inl 124) (Int32.toNatClampNeg (h.2.1 (.inl 105) 24 - 1))) (h.2.1 (.inl 125) (Int32.toNatClampNeg (h.2.1 (.inl 105) 24 - 1))) (h.2.1 (.inl 127) (Int32.toNatClampNeg (h.2.1 (.inl 105) 24 - 1))) (r_04 h)) = _
  rw [i_cl hE]
/-- counters of histories alone -/
theorem rs_A.c84 {x y : Int32} (A : rs_A hc hr S N) : rs_A (mx_uI (mx_uI hc (.inl 84) 0 x) (.inl 84) 1 y) hr S N := A
theorem rs_A.r24 {x y : Int32} (A : rs_A hc hr S N) : rs_A hc (mx_uI (mx_uI hr (.inl 105) 24 x) (.inl 105) 25 y) S N := A.g rs_u.refl ⟨rfl, rfl, fun _ => rfl, fun _ => rfl, fun s _ k i w' => by
  unfold rs_w at w'
  rw [rN (by omega), rN (by omega)]⟩
theorem rh_e.same (p85 : ∀ i, gc.2.2.2 (.inl 85) i = hc.2.2.2 (.inl 85) i) (p : ∀ q i, 86 ≤ q → q ≤ 89 → gc.2.1 (.inl q) i = hc.2.1 (.inl q) i) (r : ∀ q i, 123 ≤ q → q ≤ 127 → gr.2.1 (.inl q) i = hr.2.1 (.inl q) i) (sc : rh_s S hc gc) (e : rh_e hc hr S V j) : rh_e gc gr S V j :=
  rh_e.x (m := 0) (V := V) (p85 j) (fun q l1 l2 => p q j l1 l2) (fun q l1 l2 => r q j l1 l2) sc (Nat.le_refl _) (fun _ _ _ => ⟨rfl, rfl⟩) (fun s k l1 l2 => by omega) e
set_option maxHeartbeats 8000000 in
theorem rs_undo (A : rs_A hc hr S N) (H : rh_H hc hr S V D U) : (f144 hc).1 = (f204 hr).1 ∧ rs_A (f144 hc).2 (f204 hr).2 S N ∧ ∃ V' D' U', rh_H (f144 hc).2 (f204 hr).2 S V' D' U' := by
  obtain ⟨h1, h2, h3, h4, h5, h6, h7⟩ := id H
  cases D with
  | zero =>
    rw [f144_eq, if_neg (fun z => z (i_eq h1 k_0 rfl)), f204_eq, if_neg (fun z => z (i_eq h3 k_0 rfl))]
    exact ⟨rfl, A, V, 0, U, H⟩
  | succ E =>
    have ent := h7 E (by omega)
    obtain ⟨s, hs, e85, ee⟩ := id ent
    rw [C144 h1 (by omega) e85, R204 h3 (by omega)]
    have A' : rs_A (k_19 hc) (r_04 hr) S N := A.c84.r24
    have kE : (hc.2.1 (.inl 84) 0 - 1).toInt = (E : Int) := (i_sub h1 k_1 (by omega) (by omega)).trans (by omega)
    have rE : (hr.2.1 (.inl 105) 24 - 1).toInt = (E : Int) := (i_sub h3 k_1 (by omega) (by omega)).trans (by omega)
    have kU : (hc.2.1 (.inl 84) 1 + 1).toInt = ((U + 1 : Nat) : Int) := (i_add h2 k_1 (by omega) (by omega)).trans (by omega)
    have rU : (hr.2.1 (.inl 105) 25 + 1).toInt = ((U + 1 : Nat) : Int) := (i_add h4 k_1 (by omega) (by omega)).trans (by omega)
    have go : ∀ gc gr : mx_H, rs_A gc gr S N → rq_c (k_19 hc) gc → rq_r (r_04 hr) gr → (∀ t k, t < S → V E t k = rD gc (.inr (t, 7)) k) → gc.2.1 (.inl 84) 0 = gr.2.1 (.inl 105) 24 ∧ rs_A gc gr S N ∧ ∃ V' D' U', rh_H gc gr S V' D' U' := fun gc gr B fc fr vv => by
      have c0 : gc.2.1 (.inl 84) 0 = hc.2.1 (.inl 84) 0 - 1 := fc.2.2.1 84 0
      have c1 : gc.2.1 (.inl 84) 1 = hc.2.1 (.inl 84) 1 + 1 := fc.2.2.1 84 1
      have d0 : gr.2.1 (.inl 105) 24 = hr.2.1 (.inl 105) 24 - 1 := fr.2.2.2 105 24 (by omega)
      have d1 : gr.2.1 (.inl 105) 25 = hr.2.1 (.inl 105) 25 + 1 := fr.2.2.2 105 25 (by omega)
      refine ⟨?_, B, V, E, U + 1, ?_, ?_, ?_, ?_, by omega, vv, fun j hj => rh_e.same (hc := hc) (hr := hr) (fun i => ?_) (fun q i l1 l2 => ?_) (fun q i l1 l2 => ?_) (fun t ht => ⟨?_, fun k => ⟨?_, ?_⟩⟩) (h7 j (by omega))⟩
      · rw [c0, d0]
        exact i_eq kE rE rfl
      · unfold rD
        rw [c0]
        exact kE
      · unfold rD
        rw [c1]
        exact kU
      · unfold rD
        rw [d0]
        exact rE
      · unfold rD
        rw [d1]
        exact rU
      · rw [show gc.2.2.2 = hc.2.2.2 from congrArg Prod.snd fc.2.1]
      · refine (fc.2.2.1 q i).trans ?_
        unfold k_19
        rw [rN (by omega), rN (by omega)]
      · refine (fr.2.2.2 q i (by omega)).trans ?_
        unfold r_04
        rw [rN (by omega), rN (by omega)]
      · exact fc.2.2.2 t 0 6 (by omega)
      · exact fc.2.2.2 t 5 k (by omega)
      · exact fc.2.2.2 t 6 k (by omega)
    rcases ee with ⟨R, vv⟩ | ⟨k, u, v, X, Y, cb, ca, q1, q2, q3, q4, q5, q6, q7, q8, q9, q10, q11, q12, q13, q14⟩
    · obtain ⟨B, fc, fr, v7⟩ := rq_ac (kc := k_19 hc) (kr := r_04 hr) (w := hc.2.1 (.inl 88) E) (x := hr.2.1 (.inl 125) E) (y := hr.2.1 (.inl 127) E) A' hs R (Or.inl ⟨rfl, rfl⟩)
      refine go _ _ B fc fr (fun t k ht => ?_)
      rw [← vv t k ht, h6 t k ht]
      exact congrArg Int32.toInt (v7 t k).symm
    · obtain ⟨B, fc, fr, v7, v8⟩ := rq_ap (X := X) (cz := cb) (kc := k_19 hc) (kr := r_04 hr) (w := hc.2.1 (.inl 88) E) (x := hr.2.1 (.inl 125) E) (y := hr.2.1 (.inl 127) E) A' hs q1 q2 q3 q4 q5 q6 q7 q8 (by omega) (by
        rcases q14 with ⟨c1, c2, c3, c4⟩ | ⟨c1, c2, c3, c4, c5⟩
        · exact Or.inl ⟨c1, c2, (h6 s k hs).symm.trans (q12.trans c4.symm)⟩
        · exact Or.inr ⟨c1, c2, c4⟩)
      refine go _ _ B fc fr (fun t i ht => ?_)
      by_cases z : t = s ∧ i = k
      · rw [z.1, z.2, q11]
        exact v7.symm
      · rw [← q13 t i ht z, h6 t i ht]
        exact congrArg Int32.toInt (v8 t i z).symm
def k_20 (h : mx_H) : mx_H := mx_uI (mx_uI h (.inl 84) 0 (h.2.1 (.inl 84) 0 + 1)) (.inl 84) 1 (h.2.1 (.inl 84) 1 - 1)
def r_05 (h : mx_H) : mx_H := mx_uI (mx_uI h (.inl 105) 24 (h.2.1 (.inl 105) 24 + 1)) (.inl 105) 25 (h.2.1 (.inl 105) 25 - 1)
theorem C145 (hD : rD h (.inl 84) 0 = D) (D40 : D < 40) (hU : rD h (.inl 84) 1 = ((U + 1 : Nat) : Int)) (e85 : h.2.2.2 (.inl 85) D = some (.inr (s, 0))) : f145 h = ((k_20 (f67 s (h.2.1 (.inl 86) D) (h.2.1 (.inl 87) D) (h.2.1 (.inl 89) D) h)).2.1 (.inl 84) 1, k_20 (f67 s (h.2.1 (.inl 86) D) (h.2.1 (.inl 87) D) (h.2.1 (.inl 89) D) h)) := by
  rw [f145_eq, if_pos (show h.2.1 (.inl 84) 1 ≠ 0 from i_ne hU k_0 (by omega)), f20_eq, if_neg (i_nle hU k_0 (by omega)), if_pos (i_lt hD k_40 (by omega)), i_cl hD, x_opt_s e85, x_opt_s e85]
  rfl
theorem R205 (hD : rD h (.inl 105) 24 = D) (hU : rD h (.inl 105) 25 = ((U + 1 : Nat) : Int)) : f205 h = ((r_05 (f200 (h.2.1 (.inl 123) D) (h.2.1 (.inl 124) D) (h.2.1 (.inl 126) D) (f174 (h.2.1 (.inl 127) D) (h.2.1 (.inl 126) D)) h)).2.1 (.inl 105) 25, r_05 (f200 (h.2.1 (.inl 123) D) (h.2.1 (.inl 124) D) (h.2.1 (.inl 126) D) (f174 (h.2.1 (.inl 127) D) (h.2.1 (.inl 126) D)) h)) := by
  rw [f205_eq, if_pos (show h.2.1 (.inl 105) 25 ≠ 0 from i_ne hU k_0 (by omega)), i_cl hD]
  rfl
theorem f174_v {X Y : Int} (hx : x.toInt = X) (hy : y.toInt = Y) : (f174 x y).toInt = min X Y := by
  rw [f174_eq]
  by_cases t : y ≤ x
  · have t' := Int32.le_iff_toInt_le.mp t
    rw [if_pos t]
    omega
  · have t' : x.toInt < y.toInt := Int.not_le.mp (fun q => t (Int32.le_iff_toInt_le.mpr q))
    rw [if_neg t]
    omega
set_option maxHeartbeats 8000000 in
theorem rs_redo (A : rs_A hc hr S N) (H : rh_H hc hr S V D U) : (f145 hc).1 = (f205 hr).1 ∧ rs_A (f145 hc).2 (f205 hr).2 S N ∧ ∃ V' D' U', rh_H (f145 hc).2 (f205 hr).2 S V' D' U' := by
  obtain ⟨h1, h2, h3, h4, h5, h6, h7⟩ := id H
  cases U with
  | zero =>
    rw [f145_eq, if_neg (fun z => z (i_eq h2 k_0 rfl)), f205_eq, if_neg (fun z => z (i_eq h4 k_0 rfl))]
    exact ⟨rfl, A, V, D, 0, H⟩
  | succ U =>
    have ent := h7 D (by omega)
    obtain ⟨s, hs, e85, ee⟩ := id ent
    rw [C145 h1 (by omega) h2 e85, R205 h3 h4]
    have kE : (hc.2.1 (.inl 84) 0 + 1).toInt = ((D + 1 : Nat) : Int) := (i_add h1 k_1 (by omega) (by omega)).trans (by omega)
    have rE : (hr.2.1 (.inl 105) 24 + 1).toInt = ((D + 1 : Nat) : Int) := (i_add h3 k_1 (by omega) (by omega)).trans (by omega)
    have kU : (hc.2.1 (.inl 84) 1 - 1).toInt = (U : Int) := (i_sub h2 k_1 (by omega) (by omega)).trans (by omega)
    have rU : (hr.2.1 (.inl 105) 25 - 1).toInt = (U : Int) := (i_sub h4 k_1 (by omega) (by omega)).trans (by omega)
    have go : ∀ gc gr : mx_H, rs_A gc gr S N → rq_c hc gc → rq_r hr gr → (∀ t k, t < S → V (D + 1) t k = rD gc (.inr (t, 7)) k) → (k_20 gc).2.1 (.inl 84) 1 = (r_05 gr).2.1 (.inl 105) 25 ∧ rs_A (k_20 gc) (r_05 gr) S N ∧ ∃ V' D' U', rh_H (k_20 gc) (r_05 gr) S V' D' U' := fun gc gr B fc fr vv => by
      have c0 : gc.2.1 (.inl 84) 0 = hc.2.1 (.inl 84) 0 := fc.2.2.1 84 0
      have c1 : gc.2.1 (.inl 84) 1 = hc.2.1 (.inl 84) 1 := fc.2.2.1 84 1
      have d0 : gr.2.1 (.inl 105) 24 = hr.2.1 (.inl 105) 24 := fr.2.2.2 105 24 (by omega)
      have d1 : gr.2.1 (.inl 105) 25 = hr.2.1 (.inl 105) 25 := fr.2.2.2 105 25 (by omega)
      have B' : rs_A (k_20 gc) (r_05 gr) S N := B.c84.r24
      refine ⟨?_, B', V, D + 1, U, ?_, ?_, ?_, ?_, by omega, fun t k ht => (vv t k ht), fun j hj => rh_e.same (hc := hc) (hr := hr) (fun i => ?_) (fun q i l1 l2 => ?_) (fun q i l1 l2 => ?_) (fun t ht => ⟨?_, fun k => ⟨?_, ?_⟩⟩) (h7 j (by omega))⟩
      · show gc.2.1 (.inl 84) 1 - 1 = gr.2.1 (.inl 105) 25 - 1
        rw [c1, d1]
        exact i_eq kU rU rfl
      · show (gc.2.1 (.inl 84) 0 + 1).toInt = _
        rw [c0]
        exact kE
      · show (gc.2.1 (.inl 84) 1 - 1).toInt = _
        rw [c1]
        exact kU
      · show (gr.2.1 (.inl 105) 24 + 1).toInt = _
        rw [d0]
        exact rE
      · show (gr.2.1 (.inl 105) 25 - 1).toInt = _
        rw [d1]
        exact rU
      · show gc.2.2.2 (.inl 85) i = _
        rw [show gc.2.2.2 = hc.2.2.2 from congrArg Prod.snd fc.2.1]
      · unfold k_20
        rw [rN (by omega), rN (by omega)]
        exact fc.2.2.1 q i
      · unfold r_05
        rw [rN (by omega), rN (by omega)]
        exact fr.2.2.2 q i (by omega)
      · exact fc.2.2.2 t 0 6 (by omega)
      · exact fc.2.2.2 t 5 k (by omega)
      · exact fc.2.2.2 t 6 k (by omega)
    rcases ee with ⟨R, vv⟩ | ⟨k, u, v, X, Y, cb, ca, q1, q2, q3, q4, q5, q6, q7, q8, q9, q10, q11, q12, q13, q14⟩
    · obtain ⟨B, fc, fr, v7⟩ := rq_ac (kc := hc) (kr := hr) (w := hc.2.1 (.inl 89) D) (x := hr.2.1 (.inl 126) D) (y := f174 (hr.2.1 (.inl 127) D) (hr.2.1 (.inl 126) D)) A hs R (Or.inr ⟨rfl, rfl⟩)
      refine go _ _ B fc fr (fun t k ht => ?_)
      rw [vv t k ht, h6 t k ht]
      exact congrArg Int32.toInt (v7 t k).symm
    · obtain ⟨B, fc, fr, v7, v8⟩ := rq_ap (X := Y) (cz := ca) (kc := hc) (kr := hr) (w := hc.2.1 (.inl 89) D) (x := hr.2.1 (.inl 126) D) (y := f174 (hr.2.1 (.inl 127) D) (hr.2.1 (.inl 126) D)) A hs q1 q2 q3 q4 q5 q6 q7 q9 (by omega) (by
        rcases q14 with ⟨c1, c2, c3, c4⟩ | ⟨c1, c2, c3, c4, c5⟩
        · exact Or.inl ⟨c1, c3, (h6 s k hs).symm.trans (q11.trans c4)⟩
        · exact Or.inr ⟨c1, c3, (f174_v c4 c3).trans c5.symm⟩)
      refine go _ _ B fc fr (fun t i ht => ?_)
      by_cases z : t = s ∧ i = k
      · rw [z.1, z.2, q12]
        exact v7.symm
      · rw [q13 t i ht z, h6 t i ht]
        exact congrArg Int32.toInt (v8 t i z).symm
end RHH
/-! ===== tones counted; a cell of an array behind a store ===== -/
section RSP
variable {h hc hr : mx_H} {S N s n C F u v c k : Nat} {a a1 a2 a3 a4 x y : Int32}
theorem sh_i {i : Nat} {p : Nat} {w : Int32} {j : Nat} : (mx_uI h (.inl p) j w).2.1 (.inl p) i = if i = j then w else h.2.1 (.inl p) i := by
  by_cases e : i = j
  · rw [if_pos e, rI_c rfl e]
  · rw [if_neg e, rI_i e]
/-- tones are counted alike -/
theorem aw_tg (h1 : a1.toInt = (s : Int)) (s12 : s ≤ 12) (C6 : C ≤ 6) (kc : rD hc (.inr (s, 0)) 0 = C) (kr : rD hr (.inl 106) s = C) (he : ∀ c, c < C → hc.2.1 (.inr (s, 4)) c = hr.2.1 (.inl 110) (6 * s + c)) : ∀ (j c : Nat) (x y : Int32), c + j = C → y.toInt = (c : Int) → g60_4 s x y hc = g195_4 a1 x y hr
  | 0, c, x, y, e, hy => by rw [g60_4_eq, g195_4_eq, i_cl h1, if_pos (i_le kc hy (by omega)), if_pos (i_le kr hy (by omega))]
  | j + 1, c, x, y, e, hy => by
    have hp := w6 h1 hy s12 (show c < 6 by omega)
    have hy1 : (y + 1).toInt = ((c + 1 : Nat) : Int) := (i_add hy k_1 (by omega) (by omega)).trans (by omega)
    rw [g60_4_eq, g195_4_eq, i_cl h1, if_neg (i_nle kc hy (by omega)), if_neg (i_nle kr hy (by omega)), i_cl hy, i_cl hp, he c (by omega)]
    by_cases z : hr.2.1 (.inl 110) (6 * s + c) = 0
    · rw [if_neg (fun t => t z), if_pos z]
      exact aw_tg h1 s12 C6 kc kr he j (c + 1) (x + 1) (y + 1) (by omega) hy1
    · rw [if_pos z, if_neg z, show x + 0 = x from Int32.add_zero x]
      exact aw_tg h1 s12 C6 kc kr he j (c + 1) x (y + 1) (by omega) hy1
theorem aw_tones (Ds : rs_D hc hr N s C n F) (s12 : s ≤ 12) (h1 : a1.toInt = (s : Int)) : f60 s hc = f195 a1 hr := by
  rw [f60_eq, f195_eq]
  exact aw_tg h1 s12 Ds.2.1 Ds.2.2.2.1 Ds.2.2.2.2.1 (fun c hc1 => (Ds.2.2.2.2.2.2.2.1 c hc1).2.2.2) C 0 0 0 (by omega) rfl
end RSP
/-! ===== the told strokes and wishes, on both sides ===== -/
section RTI
variable {h g hc hr hc' hr' : mx_H} {S S' N s n C F u v c k P W j t : Nat} {a a1 a2 a3 a4 a5 x y : Int32}
/-- stroke j of the list, of shape s -/
def rl_e (hc hr : mx_H) (s j : Nat) : Prop := hc.2.1 (.inl 63) j = hr.2.1 (.inl 142) j ∧ ((hc.2.1 (.inl 61) j = 3 ∧ hc.2.1 (.inl 62) j = hr.2.1 (.inl 140) j ∧ hr.2.1 (.inl 141) j = -1) ∨ (hc.2.1 (.inl 61) j = 4 ∧ ∃ k u v : Nat, rD hc (.inl 62) j = k ∧ (k : Int) < rD hc (.inr (s, 0)) 6 ∧ (u < 6 ∧ v < 6 ∧ u ≠ v) ∧ rD hc (.inr (s, 5)) k = ((min u v : Nat) : Int) ∧ rD hc (.inr (s, 6)) k = ((max u v : Nat) : Int) ∧ rD hr (.inl 140) j = u ∧ rD hr (.inl 141) j = v))
def rl_w (hc hr : mx_H) (j : Nat) : Prop := hc.2.1 (.inl 64) j = hr.2.1 (.inl 143) j ∧ hc.2.1 (.inl 65) j = hr.2.1 (.inl 144) j ∧ hc.2.1 (.inl 66) j = hr.2.1 (.inl 145) j
def rl_P (hc hr : mx_H) (S P : Nat) : Prop := P ≤ 6 ∧ rD hc (.inl 60) 1 = P ∧ rD hr (.inl 105) 51 = P ∧ (0 < P → ∃ s : Nat, s < S ∧ rD hc (.inl 60) 0 = s ∧ rD hr (.inl 105) 52 = s ∧ ∀ j, j < P → rl_e hc hr s j)
def rl_W (hc hr : mx_H) (W : Nat) : Prop := W ≤ 6 ∧ rD hc (.inl 60) 5 = W ∧ rD hr (.inl 105) 56 = W ∧ ∀ j, j < W → rl_w hc hr j
def rt_L (hc hr : mx_H) (S : Nat) : Prop := (∃ P, rl_P hc hr S P) ∧ ∃ W, rl_W hc hr W
theorem rl_e.fx (p : ∀ q, 61 ≤ q → q ≤ 63 → hc'.2.1 (.inl q) j = hc.2.1 (.inl q) j) (r : ∀ q, 140 ≤ q → q ≤ 142 → hr'.2.1 (.inl q) j = hr.2.1 (.inl q) j) (s6 : hc'.2.1 (.inr (s, 0)) 6 = hc.2.1 (.inr (s, 0)) 6) (s5 : ∀ k, hc'.2.1 (.inr (s, 5)) k = hc.2.1 (.inr (s, 5)) k ∧ hc'.2.1 (.inr (s, 6)) k = hc.2.1 (.inr (s, 6)) k) (e : rl_e hc hr s j) : rl_e hc' hr' s j := by
  unfold rl_e rD at e ⊢
  rw [p 61 (by decide +kernel) (by decide +kernel), p 62 (by decide +kernel) (by decide +kernel), p 63 (by decide +kernel) (by decide +kernel), r 140 (by decide +kernel) (by decide +kernel), r 141 (by decide +kernel) (by decide +kernel), r 142 (by decide +kernel) (by decide +kernel), s6]
  obtain ⟨e1, e2⟩ := e
  refine ⟨e1, ?_⟩
  rcases e2 with e2 | ⟨e2, k, u, v, q1, q2, q3, q4, q5, q6, q7⟩
  · exact Or.inl e2
  · refine Or.inr ⟨e2, k, u, v, q1, q2, q3, ?_, ?_, q6, q7⟩
    · rw [(s5 k).1]
      exact q4
    · rw [(s5 k).2]
      exact q5
theorem rl_P.fx (SS : S ≤ S') (p : ∀ q i, 60 ≤ q → q ≤ 63 → (q = 60 → i = 0 ∨ i = 1) → hc'.2.1 (.inl q) i = hc.2.1 (.inl q) i) (r : ∀ q i, 140 ≤ q → q ≤ 142 → hr'.2.1 (.inl q) i = hr.2.1 (.inl q) i) (r1 : hr'.2.1 (.inl 105) 51 = hr.2.1 (.inl 105) 51) (r2 : hr'.2.1 (.inl 105) 52 = hr.2.1 (.inl 105) 52) (sc : rh_s S hc hc') (L : rl_P hc hr S P) : rl_P hc' hr' S' P := by
  obtain ⟨l1, l2, l3, l4⟩ := L
  refine ⟨l1, ?_, ?_, fun z => ?_⟩
  · unfold rD
    rw [p 60 1 (by decide +kernel) (by decide +kernel) (by omega)]
    exact l2
  · unfold rD
    rw [r1]
    exact l3
  · obtain ⟨s, s1, s2, s3, s4⟩ := l4 z
    refine ⟨s, by omega, ?_, ?_, fun j hj => (s4 j hj).fx (fun q w1 w2 => p q j (by omega) w2 (by omega)) (fun q w1 w2 => r q j w1 w2) (sc s s1).1 (sc s s1).2⟩
    · unfold rD
      rw [p 60 0 (by decide +kernel) (by decide +kernel) (by omega)]
      exact s2
    · unfold rD
      rw [r2]
      exact s3
theorem rl_W.fx (p5 : hc'.2.1 (.inl 60) 5 = hc.2.1 (.inl 60) 5) (p : ∀ q i, 64 ≤ q → q ≤ 66 → hc'.2.1 (.inl q) i = hc.2.1 (.inl q) i) (r : ∀ q i, 143 ≤ q → q ≤ 145 → hr'.2.1 (.inl q) i = hr.2.1 (.inl q) i) (r1 : hr'.2.1 (.inl 105) 56 = hr.2.1 (.inl 105) 56) (L : rl_W hc hr W) : rl_W hc' hr' W := by
  obtain ⟨l1, l2, l3, l4⟩ := L
  refine ⟨l1, ?_, ?_, fun j hj => ?_⟩
  · unfold rD
    rw [p5]
    exact l2
  · unfold rD
    rw [r1]
    exact l3
  · unfold rl_w
    rw [p 64 j (by decide +kernel) (by decide +kernel), p 65 j (by decide +kernel) (by decide +kernel), p 66 j (by decide +kernel) (by decide +kernel), r 143 j (by decide +kernel) (by decide +kernel), r 144 j (by decide +kernel) (by decide +kernel), r 145 j (by decide +kernel) (by decide +kernel)]
    exact l4 j hj
/-- whether a stroke is told: the class -/
theorem C43 (hP : rD h (.inl 60) 1 = P) (P6 : P ≤ 6) : ∀ (i j : Nat) (a3 : Int32), j + i = P → a3.toInt = (j : Int) → (∃ q, j ≤ q ∧ q < P ∧ h.2.1 (.inl 61) q = x ∧ h.2.1 (.inl 62) q = y ∧ g43_2 x y a3 h = 1) ∨ ((∀ q, j ≤ q → q < P → ¬ (h.2.1 (.inl 61) q = x ∧ h.2.1 (.inl 62) q = y)) ∧ g43_2 x y a3 h = 0)
  | 0, j, a3, e, ha => Or.inr ⟨fun q l1 l2 => by omega, by rw [g43_2_eq, if_pos (i_le hP ha (by omega))]⟩
  | i + 1, j, a3, e, ha => by
    have E := g43_2_eq x y a3 h
    rw [if_neg (i_nle hP ha (by omega)), i_cl ha] at E
    have nx := C43 hP P6 i (j + 1) (a3 + 1) (by omega) ((i_add ha k_1 (by omega) (by omega)).trans (by omega))
    by_cases m : h.2.1 (.inl 61) j = x ∧ h.2.1 (.inl 62) j = y
    · rw [if_neg (fun z => z m.1), if_neg (fun z => z m.2)] at E
      exact Or.inl ⟨j, Nat.le_refl _, by omega, m.1, m.2, E⟩
    · have E' : g43_2 x y a3 h = g43_2 x y (a3 + 1) h := by
        by_cases m1 : h.2.1 (.inl 61) j = x
        · rw [if_neg (fun z => z m1), if_pos (fun z => m ⟨m1, z⟩)] at E
          exact E
        · rw [if_pos m1] at E
          exact E
      rw [E']
      rcases nx with ⟨q, q1, q2, q3, q4, q5⟩ | ⟨q1, q2⟩
      · exact Or.inl ⟨q, by omega, q2, q3, q4, q5⟩
      · refine Or.inr ⟨fun q l1 l2 => ?_, q2⟩
        by_cases ej : q = j
        · rw [ej]
          exact m
        · exact q1 q (by omega) l2
/-- whether it is told: the reference -/
def rl_m (h : mx_H) (a2 a3 : Int32) (q : Nat) : Prop := (h.2.1 (.inl 140) q = a2 ∧ h.2.1 (.inl 141) q = a3) ∨ (¬ a3 < 0 ∧ h.2.1 (.inl 140) q = a3 ∧ h.2.1 (.inl 141) q = a2)
theorem R239 (hP : rD h (.inl 105) 51 = P) (P6 : P ≤ 6) : ∀ (i j : Nat) (a5 : Int32), j + i = P → a5.toInt = (j : Int) → (∃ q, j ≤ q ∧ q < P ∧ rl_m h a2 a3 q ∧ g239_61 a1 a2 a3 a4 a5 h = (-1, h)) ∨ ((∀ q, j ≤ q → q < P → ¬ rl_m h a2 a3 q) ∧ ∃ b : Int32, b.toInt = (P : Int) ∧ g239_61 a1 a2 a3 a4 a5 h = g239_61 a1 a2 a3 a4 b h)
  | 0, j, a5, e, ha => Or.inr ⟨fun q l1 l2 => by omega, a5, ha.trans (by omega), rfl⟩
  | i + 1, j, a5, e, ha => by
    have E := g239_61_eq a1 a2 a3 a4 a5 h
    rw [if_neg (i_nle hP ha (by omega)), i_cl ha] at E
    have nx := R239 hP P6 i (j + 1) (a5 + 1) (by omega) ((i_add ha k_1 (by omega) (by omega)).trans (by omega))
    have D : (rl_m h a2 a3 j ∧ g239_61 a1 a2 a3 a4 a5 h = (-1, h)) ∨ (¬ rl_m h a2 a3 j ∧ g239_61 a1 a2 a3 a4 a5 h = g239_61 a1 a2 a3 a4 (a5 + 1) h) := by
      by_cases m1 : h.2.1 (.inl 140) j = a2
      · rw [if_neg (fun z => z m1)] at E
        by_cases m2 : h.2.1 (.inl 141) j = a3
        · rw [if_pos m2] at E
          exact Or.inl ⟨Or.inl ⟨m1, m2⟩, E⟩
        · rw [if_neg m2] at E
          by_cases m3 : a3 < 0
          · rw [if_pos m3] at E
            exact Or.inr ⟨fun z => z.elim (fun z => m2 z.2) (fun z => z.1 m3), E⟩
          · rw [if_neg m3] at E
            by_cases m4 : h.2.1 (.inl 140) j = a3
            · rw [if_neg (fun z => z m4)] at E
              by_cases m5 : h.2.1 (.inl 141) j = a2
              · rw [if_neg (fun z => z m5)] at E
                exact Or.inl ⟨Or.inr ⟨m3, m4, m5⟩, E⟩
              · rw [if_pos m5] at E
                exact Or.inr ⟨fun z => z.elim (fun z => m2 z.2) (fun z => m5 z.2.2), E⟩
            · rw [if_pos m4] at E
              exact Or.inr ⟨fun z => z.elim (fun z => m2 z.2) (fun z => m4 z.2.1), E⟩
      · rw [if_pos m1] at E
        by_cases m3 : a3 < 0
        · rw [if_pos m3] at E
          exact Or.inr ⟨fun z => z.elim (fun z => m1 z.1) (fun z => z.1 m3), E⟩
        · rw [if_neg m3] at E
          by_cases m4 : h.2.1 (.inl 140) j = a3
          · rw [if_neg (fun z => z m4)] at E
            by_cases m5 : h.2.1 (.inl 141) j = a2
            · rw [if_neg (fun z => z m5)] at E
              exact Or.inl ⟨Or.inr ⟨m3, m4, m5⟩, E⟩
            · rw [if_pos m5] at E
              exact Or.inr ⟨fun z => z.elim (fun z => m1 z.1) (fun z => m5 z.2.2), E⟩
          · rw [if_pos m4] at E
            exact Or.inr ⟨fun z => z.elim (fun z => m1 z.1) (fun z => m4 z.2.1), E⟩
    rcases D with ⟨d1, d2⟩ | ⟨d1, d2⟩
    · exact Or.inl ⟨j, Nat.le_refl _, by omega, d1, d2⟩
    · rcases nx with ⟨q, q1, q2, q3, q4⟩ | ⟨q1, b, q2, q3⟩
      · exact Or.inl ⟨q, by omega, q2, q3, d2.trans q4⟩
      · refine Or.inr ⟨fun q l1 l2 => ?_, b, q2, d2.trans q3⟩
        by_cases ej : q = j
        · rw [ej]
          exact d1
        · exact q1 q (by omega) l2
def r_pl (h : mx_H) (P : Nat) (a1 a2 a3 a4 : Int32) : mx_H := mx_uI (mx_uI (mx_uI (mx_uI (mx_uI h (.inl 105) 52 a1) (.inl 140) P a2) (.inl 141) P a3) (.inl 142) P a4) (.inl 105) 51 (h.2.1 (.inl 105) 51 + 1)
theorem R239x {b : Int32} (hP : rD h (.inl 105) 51 = P) (hb : b.toInt = (P : Int)) : g239_61 a1 a2 a3 a4 b h = if a3 < 0 then (if h.2.1 (.inl 105) 51 ≠ 6 then (h.2.1 (.inl 105) 51 + 1, r_pl h P a1 a2 a3 a4) else (-3, h)) else (if a2 = a3 then (-2, h) else (if f180 a1 a2 a3 h ≠ 0 then (if h.2.1 (.inl 105) 51 ≠ 6 then (h.2.1 (.inl 105) 51 + 1, r_pl h P a1 a2 a3 a4) else (-3, h)) else (-2, h))) := by
  rw [g239_61_eq, if_pos (i_le hP hb (by omega))]
  have e : r_pl h P a1 a2 a3 a4 = r_pl h (Int32.toNatClampNeg (h.2.1 (.inl 105) 51)) a1 a2 a3 a4 := by rw [i_cl hP]
  rw [e]
  rfl
def k_pl (h : mx_H) (P : Nat) (a1 x y a4 : Int32) : mx_H := mx_uI (mx_uI (mx_uI (mx_uI (mx_uI h (.inl 60) 0 a1) (.inl 61) P x) (.inl 62) P y) (.inl 63) P a4) (.inl 60) 1 (h.2.1 (.inl 60) 1 + 1)
theorem C44 (hP : rD h (.inl 60) 1 = P) (P6 : P < 6) : f44 x y a4 (mx_uI h (.inl 60) 0 a1) = k_pl h P a1 x y a4 := by
  have e : k_pl h P a1 x y a4 = k_pl h (Int32.toNatClampNeg (h.2.1 (.inl 60) 1)) a1 x y a4 := by rw [i_cl hP]
  rw [f44_eq, if_pos (show (mx_uI h (.inl 60) 0 a1).2.1 (.inl 60) 1 < 6 from i_lt (show ((mx_uI h (.inl 60) 0 a1).2.1 (.inl 60) 1).toInt = P from hP) k_6 (by omega)), e]
  rfl
theorem C120 (ne : a3 ≠ -1) : g120_65 a1 a2 a3 a4 s h = if 0 ≤ f61 s a2 a3 h then (if f43 4 (f61 s a2 a3 h) h = 0 then (if h.2.1 (.inl 60) 1 < 6 then ((f44 4 (f61 s a2 a3 h) a4 (mx_uI h (.inl 60) 0 a1)).2.1 (.inl 60) 1, f44 4 (f61 s a2 a3 h) a4 (mx_uI h (.inl 60) 0 a1)) else (-3, h)) else (-1, h)) else (-2, h) := by
  rw [g120_65_eq, if_pos ne, if_pos ne]
  rfl
theorem C120h (eq : a3 = -1) : g120_65 a1 a2 a3 a4 s h = if 0 ≤ a2 then (if f43 3 a2 h = 0 then (if h.2.1 (.inl 60) 1 < 6 then ((f44 3 a2 a4 (mx_uI h (.inl 60) 0 a1)).2.1 (.inl 60) 1, f44 3 a2 a4 (mx_uI h (.inl 60) 0 a1)) else (-3, h)) else (-1, h)) else (-2, h) := by
  rw [g120_65_eq, if_neg (fun z => z eq), if_neg (fun z => z eq)]
  rfl
/-- a stroke more -/
theorem rl_add (hs : s < S) (P6 : P < 6) (hP : rD hc (.inl 60) 1 = P) (hQ : rD hr (.inl 105) 51 = P) (h1 : a1.toInt = (s : Int)) (E : ∀ j, j < P → rl_e hc hr s j) (new : ∀ g g' : mx_H, g.2.1 (.inl 61) P = x → g.2.1 (.inl 62) P = y → g.2.1 (.inl 63) P = a4 → g'.2.1 (.inl 140) P = a2 → g'.2.1 (.inl 141) P = a3 → g'.2.1 (.inl 142) P = a4 → (∀ q i, g.2.1 (.inr q) i = hc.2.1 (.inr q) i) → rl_e g g' s P) : rl_P (k_pl hc P a1 x y a4) (r_pl hr P a1 a2 a3 a4) S (P + 1) := by
  have c1 : ∀ i, (k_pl hc P a1 x y a4).2.1 (.inl 61) i = if i = P then x else hc.2.1 (.inl 61) i := fun i => (show (mx_uI (mx_uI hc (.inl 60) 0 a1) (.inl 61) P x).2.1 (.inl 61) i = _ from sh_i)
  have c2 : ∀ i, (k_pl hc P a1 x y a4).2.1 (.inl 62) i = if i = P then y else hc.2.1 (.inl 62) i := fun i => (show (mx_uI (mx_uI (mx_uI hc (.inl 60) 0 a1) (.inl 61) P x) (.inl 62) P y).2.1 (.inl 62) i = _ from sh_i)
  have c3 : ∀ i, (k_pl hc P a1 x y a4).2.1 (.inl 63) i = if i = P then a4 else hc.2.1 (.inl 63) i := fun i => (show (mx_uI (mx_uI (mx_uI (mx_uI hc (.inl 60) 0 a1) (.inl 61) P x) (.inl 62) P y) (.inl 63) P a4).2.1 (.inl 63) i = _ from sh_i)
  have d1 : ∀ i, (r_pl hr P a1 a2 a3 a4).2.1 (.inl 140) i = if i = P then a2 else hr.2.1 (.inl 140) i := fun i => (show (mx_uI (mx_uI hr (.inl 105) 52 a1) (.inl 140) P a2).2.1 (.inl 140) i = _ from sh_i)
  have d2 : ∀ i, (r_pl hr P a1 a2 a3 a4).2.1 (.inl 141) i = if i = P then a3 else hr.2.1 (.inl 141) i := fun i => (show (mx_uI (mx_uI (mx_uI hr (.inl 105) 52 a1) (.inl 140) P a2) (.inl 141) P a3).2.1 (.inl 141) i = _ from sh_i)
  have d3 : ∀ i, (r_pl hr P a1 a2 a3 a4).2.1 (.inl 142) i = if i = P then a4 else hr.2.1 (.inl 142) i := fun i => (show (mx_uI (mx_uI (mx_uI (mx_uI hr (.inl 105) 52 a1) (.inl 140) P a2) (.inl 141) P a3) (.inl 142) P a4).2.1 (.inl 142) i = _ from sh_i)
  refine ⟨by omega, ?_, ?_, fun _ => ⟨s, hs, h1, h1, fun j hj => ?_⟩⟩
  · show (hc.2.1 (.inl 60) 1 + 1).toInt = _
    exact (i_add hP k_1 (by omega) (by omega)).trans (by omega)
  · show (hr.2.1 (.inl 105) 51 + 1).toInt = _
    exact (i_add hQ k_1 (by omega) (by omega)).trans (by omega)
  · by_cases e : j = P
    · rw [e]
      exact new _ _ (by rw [c1, if_pos rfl]) (by rw [c2, if_pos rfl]) (by rw [c3, if_pos rfl]) (by rw [d1, if_pos rfl]) (by rw [d2, if_pos rfl]) (by rw [d3, if_pos rfl]) (fun _ _ => rfl)
    · refine rl_e.fx (hc := hc) (hr := hr) (fun q w1 w2 => ?_) (fun q w1 w2 => ?_) rfl (fun _ => ⟨rfl, rfl⟩) (E j (by omega))
      · rcases (show q = 61 ∨ q = 62 ∨ q = 63 by omega) with w | w | w
        · subst w
          rw [c1, if_neg e]
        · subst w
          rw [c2, if_neg e]
        · subst w
          rw [c3, if_neg e]
      · rcases (show q = 140 ∨ q = 141 ∨ q = 142 by omega) with w | w | w
        · subst w
          rw [d1, if_neg e]
        · subst w
          rw [d2, if_neg e]
        · subst w
          rw [d3, if_neg e]
set_option maxHeartbeats 8000000 in
/-- the list's own part of plan -/
theorem rl_core (A : rs_A hc hr S N) (hs : s < S) (Ds : rs_D hc hr N s C n F) (h1 : a1.toInt = (s : Int)) (hx : a2.toInt = (u : Int)) (hu : u < C) (b3 : a3 = -1 ∨ ∃ v, v < C ∧ a3.toInt = (v : Int)) (P6 : P ≤ 6) (hP : rD hc (.inl 60) 1 = P) (hQ : rD hr (.inl 105) 51 = P) (L0 : rl_P hc hr S P) (LW : rl_W hc hr W) (E : ∀ j, j < P → rl_e hc hr s j) : (g120_65 a1 a2 a3 a4 s hc).1 = (g239_61 a1 a2 a3 a4 0 hr).1 ∧ rt_L (g120_65 a1 a2 a3 a4 s hc).2 (g239_61 a1 a2 a3 a4 0 hr).2 S := by
  have A2 := A.2.1
  have A1 := A.1
  have C6 := Ds.2.1
  have n15 : n ≤ 15 := by
    rw [Ds.2.2.2.2.2.2.2.2.2.2.2.1]
    exact sd_C_15 _
  have n6 := Ds.2.2.2.2.2.1
  have pq : hc.2.1 (.inl 60) 1 = hr.2.1 (.inl 105) 51 := i_eq hP hQ rfl
  have ref := R239 (a1 := a1) (a2 := a2) (a3 := a3) (a4 := a4) hQ P6 P 0 0 (by omega) rfl
  by_cases m : a3 = -1
  · -- a corner
    rw [C120h m, if_pos (show (0 : Int32) ≤ a2 from i_le k_0 hx (by omega)), f43_eq]
    have mr : ∀ q, q < P → (rl_m hr a2 a3 q ↔ hc.2.1 (.inl 61) q = 3 ∧ hc.2.1 (.inl 62) q = a2) := fun q hq => by
      obtain ⟨-, e2⟩ := E q hq
      rcases e2 with ⟨w1, w2, w3⟩ | ⟨w1, k, u', v', w2, w3, w4, w5, w6, w7, w8⟩
      · refine ⟨fun z => ⟨w1, ?_⟩, fun z => Or.inl ⟨w2.symm.trans z.2, w3.trans m.symm⟩⟩
        rcases z with z | z
        · exact w2.trans z.1
        · exact absurd (show a3 < 0 by rw [m]; decide) z.1
      · refine ⟨fun z => ?_, fun z => ?_⟩
        · exfalso
          rcases z with z | z
          · rw [m] at z
            have := congrArg Int32.toInt z.2
            unfold rD at w8
            rw [w8, k_m1] at this
            omega
          · exact absurd (show a3 < 0 by rw [m]; decide) z.1
        · rw [w1] at z
          exact absurd z.1 (by decide +kernel)
    rcases C43 (x := 3) (y := a2) hP P6 P 0 0 (by omega) rfl with ⟨q, q1, q2, q3, q4, q5⟩ | ⟨q1, q5⟩
    · rcases ref with ⟨-, -, -, -, r⟩ | ⟨r, -⟩
      · rw [q5, if_neg n10, r]
        exact ⟨rfl, ⟨P, L0⟩, W, LW⟩
      · exact absurd ((mr q q2).mpr ⟨q3, q4⟩) (r q q1 q2)
    · rcases ref with ⟨q, w1, w2, w3, w4⟩ | ⟨-, b, r1, r2⟩
      · exact absurd ((mr q w2).mp w3) (q1 q w1 w2)
      · rw [q5, if_pos rfl, r2, R239x hQ r1, if_pos (show a3 < 0 by rw [m]; decide)]
        by_cases f : P = 6
        · rw [if_neg (i_nlt hP k_6 (by omega)), if_neg (fun z => z (i_eq hQ k_6 (by omega)))]
          exact ⟨rfl, ⟨P, L0⟩, W, LW⟩
        · rw [if_pos (i_lt hP k_6 (by omega)), if_pos (show hr.2.1 (.inl 105) 51 ≠ 6 from i_ne hQ k_6 (by omega)), C44 hP (by omega)]
          refine ⟨?_, ⟨P + 1, rl_add hs (by omega) hP hQ h1 E (fun g g' t1 t2 t3 t4 t5 t6 t7 => ⟨t3.trans t6.symm, Or.inl ⟨t1, t2.trans t4.symm, t5.trans m⟩⟩)⟩, W, LW⟩
          show hc.2.1 (.inl 60) 1 + 1 = hr.2.1 (.inl 105) 51 + 1
          rw [pq]
  · -- a piece
    obtain ⟨v, hv, hy⟩ := b3.resolve_left m
    have n3 : ¬ a3 < 0 := i_nlt hy k_0 (by omega)
    rw [C120 m]
    have kk : ∀ k' u' v' : Nat, (k' : Int) < rD hc (.inr (s, 0)) 6 → rD hc (.inr (s, 5)) k' = ((min u' v' : Nat) : Int) → rD hc (.inr (s, 6)) k' = ((max u' v' : Nat) : Int) → u' ≠ v' → rs_k hc hr s C F k' u' v' ∨ rs_k hc hr s C F k' v' u' := fun k' u' v' z1 z2 z3 z4 => by
      obtain ⟨u0, v0, Q0⟩ := Ds.2.2.2.2.2.2.2.2.2.1 k' (by omega)
      have p4 := Q0.2.2.2.1
      have p5 := Q0.2.2.2.2.1
      have t : (u0 = u' ∧ v0 = v') ∨ (u0 = v' ∧ v0 = u') := by omega
      rcases t with ⟨t1, t2⟩ | ⟨t1, t2⟩
      · rw [t1, t2] at Q0
        exact Or.inl Q0
      · rw [t1, t2] at Q0
        exact Or.inr Q0
    have swap : ∀ q, q < P → rl_m hr a2 a3 q → ∃ k', hc.2.1 (.inl 61) q = 4 ∧ rD hc (.inl 62) q = (k' : Nat) ∧ (k' : Int) < rD hc (.inr (s, 0)) 6 ∧ u ≠ v ∧ (rs_k hc hr s C F k' u v ∨ rs_k hc hr s C F k' v u) := fun q hq z => by
      obtain ⟨-, e2⟩ := E q hq
      rcases e2 with ⟨w1, w2, w3⟩ | ⟨w1, k', u', v', w2, w3, w4, w5, w6, w7, w8⟩
      · exfalso
        rcases z with z | z
        · have := congrArg Int32.toInt (z.2.symm.trans w3)
          rw [hy, k_m1] at this
          omega
        · have := congrArg Int32.toInt (z.2.2.symm.trans w3)
          rw [hx, k_m1] at this
          omega
      · have K := kk k' u' v' w3 w5 w6 w4.2.2
        unfold rD at w7 w8
        rcases z with z | z
        · have z1 := congrArg Int32.toInt z.1
          have z2 := congrArg Int32.toInt z.2
          have e1 : u' = u := by omega
          have e2 : v' = v := by omega
          rw [e1, e2] at K w4
          exact ⟨k', w1, w2, w3, w4.2.2, K⟩
        · have z1 := congrArg Int32.toInt z.2.1
          have z2 := congrArg Int32.toInt z.2.2
          have e1 : u' = v := by omega
          have e2 : v' = u := by omega
          rw [e1, e2] at K w4
          exact ⟨k', w1, w2, w3, fun t => w4.2.2 t.symm, K.symm⟩
    rcases rs_pb (a := a1) Ds n15 A2 (by omega) h1 hx hy hu hv with ⟨k, hk, ne, ek, Q, f1, Wp⟩ | ⟨ek, un⟩
    · rw [if_pos (show 0 ≤ f61 s a2 a3 hc from i_le k_0 ek (by omega)), f43_eq]
      have bq := rs_k.b Q
      have mr : ∀ q, q < P → (rl_m hr a2 a3 q ↔ hc.2.1 (.inl 61) q = 4 ∧ hc.2.1 (.inl 62) q = f61 s a2 a3 hc) := fun q hq => by
        refine ⟨fun z => ?_, fun z => ?_⟩
        · obtain ⟨k', w1, w2, w3, w4, K⟩ := swap q hq z
          have b' := rs_k.b K
          have e1 := bq.2.2.2.2.2.1
          have e2 := b'.2.2.2.2.2.1
          exact ⟨w1, i_eq w2 ek (by omega)⟩
        · obtain ⟨-, e2⟩ := E q hq
          rcases e2 with ⟨w1, w2, w3⟩ | ⟨w1, k', u', v', w2, w3, w4, w5, w6, w7, w8⟩
          · rw [w1] at z
            exact absurd z.1 (by decide +kernel)
          · have kq : k' = k := by
              unfold rD at w2
              rw [z.2, ek] at w2
              omega
            subst kq
            have l1 := bq.2.2.2.1
            have l2 := bq.2.2.2.2.1
            have t : (u' = u ∧ v' = v) ∨ (u' = v ∧ v' = u) := by omega
            rcases t with ⟨t1, t2⟩ | ⟨t1, t2⟩
            · exact Or.inl ⟨i_eq w7 hx (by omega), i_eq w8 hy (by omega)⟩
            · exact Or.inr ⟨n3, i_eq w7 hy (by omega), i_eq w8 hx (by omega)⟩
      rcases C43 (x := 4) (y := f61 s a2 a3 hc) hP P6 P 0 0 (by omega) rfl with ⟨q, q1, q2, q3, q4, q5⟩ | ⟨q1, q5⟩
      · rcases ref with ⟨-, -, -, -, r⟩ | ⟨r, -⟩
        · rw [q5, if_neg n10, r]
          exact ⟨rfl, ⟨P, L0⟩, W, LW⟩
        · exact absurd ((mr q q2).mpr ⟨q3, q4⟩) (r q q1 q2)
      · rcases ref with ⟨q, w1, w2, w3, w4⟩ | ⟨-, b, r1, r2⟩
        · exact absurd ((mr q w2).mp w3) (q1 q w1 w2)
        · rw [q5, if_pos rfl, r2, R239x hQ r1, if_neg n3, if_neg (i_ne hx hy (by omega)), if_pos (show f180 a1 a2 a3 hr ≠ 0 by rw [f1]; exact n10)]
          by_cases f : P = 6
          · rw [if_neg (i_nlt hP k_6 (by omega)), if_neg (fun z => z (i_eq hQ k_6 (by omega)))]
            exact ⟨rfl, ⟨P, L0⟩, W, LW⟩
          · rw [if_pos (i_lt hP k_6 (by omega)), if_pos (show hr.2.1 (.inl 105) 51 ≠ 6 from i_ne hQ k_6 (by omega)), C44 hP (by omega)]
            refine ⟨?_, ⟨P + 1, rl_add hs (by omega) hP hQ h1 E (fun g g' t1 t2 t3 t4 t5 t6 t7 => ⟨t3.trans t6.symm, Or.inr ⟨t1, k, u, v, ?_, ?_, ⟨by omega, by omega, ne⟩, ?_, ?_, ?_, ?_⟩⟩)⟩, W, LW⟩
            · show hc.2.1 (.inl 60) 1 + 1 = hr.2.1 (.inl 105) 51 + 1
              rw [pq]
            · unfold rD
              rw [t2]
              exact ek
            · unfold rD
              rw [t7 (s, 0) 6]
              unfold rD at n6
              omega
            · unfold rD
              rw [t7 (s, 5) k]
              exact bq.2.2.2.1
            · unfold rD
              rw [t7 (s, 6) k]
              exact bq.2.2.2.2.1
            · unfold rD
              rw [t4]
              exact hx
            · unfold rD
              rw [t5]
              exact hy
    · rw [ek, if_neg (show ¬ (0 : Int32) ≤ -1 by decide +kernel)]
      rcases ref with ⟨q, w1, w2, w3, w4⟩ | ⟨-, b, r1, r2⟩
      · exfalso
        obtain ⟨k', z1, z2, z3, z4, K⟩ := swap q w2 w3
        have b' := (rs_k.b K).2.2.2.2.2.1
        rcases un with un | ⟨-, un⟩
        · exact z4 un
        · have Wp := w179 h1 hx hy (show s ≤ 12 by omega) (show u < 6 by omega) (show v < 6 by omega)
          rw [f180_eq, i_cl Wp, if_neg (i_nle b' k_0 (by omega))] at un
          exact n10 un
      · rw [r2, R239x hQ r1, if_neg n3]
        rcases un with un | ⟨un, z⟩
        · rw [if_pos (i_eq hx hy (by omega))]
          exact ⟨rfl, ⟨P, L0⟩, W, LW⟩
        · rw [if_neg (i_ne hx hy (by omega)), if_neg (by rw [z]; exact fun t => t rfl)]
          exact ⟨rfl, ⟨P, L0⟩, W, LW⟩
theorem rl_30 (A : rs_A hc hr S N) (hs : s < S) (Ds : rs_D hc hr N s C n F) (h1 : a1.toInt = (s : Int)) (hx : a2.toInt = (u : Int)) (hu : u < C) (b3 : a3 = -1 ∨ ∃ v, v < C ∧ a3.toInt = (v : Int)) (L0 : rl_P hc hr S P) (LW : rl_W hc hr W) {rr : Int32 × mx_H} (er : rr = if f173 a4 1 3 = 0 then (-1, hr) else (if hr.2.1 (.inl 105) 51 ≤ 0 then g239_61 a1 a2 a3 a4 0 hr else (if a1 = hr.2.1 (.inl 105) 52 then g239_61 a1 a2 a3 a4 0 hr else (-1, hr)))) : (g120_30 a1 a2 a3 a4 s hc).1 = rr.1 ∧ rt_L (g120_30 a1 a2 a3 a4 s hc).2 rr.2 S := by
  have K := g120_30_eq a1 a2 a3 a4 s hc
  rw [w_ws, g120_40_eq] at K
  obtain ⟨l1, l2, l3, l4⟩ := id L0
  by_cases c : f173 a4 1 3 = 0
  · rw [if_neg (fun z => z c)] at K
    rw [if_pos c] at er
    rw [K, er]
    exact ⟨rfl, ⟨P, L0⟩, W, LW⟩
  · rw [if_pos c] at K
    rw [if_neg c] at er
    by_cases z : P = 0
    · rw [if_pos (i_le l2 k_0 (by omega))] at K
      rw [if_pos (i_le l3 k_0 (by omega))] at er
      rw [K, er]
      exact rl_core A hs Ds h1 hx hu b3 l1 l2 l3 L0 LW (fun j hj => by omega)
    · rw [if_neg (i_nle l2 k_0 (by omega))] at K
      rw [if_neg (i_nle l3 k_0 (by omega))] at er
      obtain ⟨t, t1, t2, t3, t4⟩ := l4 (by omega)
      by_cases es : t = s
      · subst es
        rw [if_pos (i_eq t2 h1 rfl)] at K
        rw [if_pos (i_eq h1 t3 rfl)] at er
        rw [K, er]
        exact rl_core A hs Ds h1 hx hu b3 l1 l2 l3 L0 LW t4
      · rw [if_neg (i_ne t2 h1 (by omega))] at K
        rw [if_neg (i_ne h1 t3 (by omega))] at er
        rw [K, er]
        exact ⟨rfl, ⟨P, L0⟩, W, LW⟩
theorem rs_plan (A : rs_A hc hr S N) (L : rt_L hc hr S) : (f120 a1 a2 a3 a4 hc).1 = (f239 a1 a2 a3 a4 hr).1 ∧ rt_L (f120 a1 a2 a3 a4 hc).2 (f239 a1 a2 a3 a4 hr).2 S := by
  obtain ⟨⟨P, L0⟩, W, LW⟩ := id L
  obtain ⟨A1, A2, A3, A4, A5, A6, A7, A8, A9, A10⟩ := id A
  have bad := g120_40_eq hc
  have fin : f120 a1 a2 a3 a4 hc = (-1, hc) → f239 a1 a2 a3 a4 hr = (-1, hr) → (f120 a1 a2 a3 a4 hc).1 = (f239 a1 a2 a3 a4 hr).1 ∧ rt_L (f120 a1 a2 a3 a4 hc).2 (f239 a1 a2 a3 a4 hr).2 S := fun q1 q2 => by
    rw [q1, q2]
    exact ⟨rfl, L⟩
  have K := f120_eq a1 a2 a3 a4 hc
  have T := f239_eq a1 a2 a3 a4 hr
  rcases C166 (a := a1) A with ⟨s, lt, h1, e1, e1'⟩ | ⟨e1, e1'⟩
  · obtain ⟨C, n, F, Ds⟩ := (A9 s lt).2
    rw [if_neg (by rw [e1']; exact n10)] at T
    have K' : f120 a1 a2 a3 a4 hc = if f164 s a2 hc = 0 then g120_40 hc else (if a3 = -1 then g120_30 a1 a2 a3 a4 s hc else (if f164 s a3 hc = 0 then g120_40 hc else g120_30 a1 a2 a3 a4 s hc)) := by
      rw [K, e1]
      rfl
    clear K
    rcases C164 (x := a2) h1 Ds.2.2.2.1 Ds.2.2.2.2.1 Ds.2.1 with ⟨u, hu, hx, g1, g1'⟩ | ⟨g1, g1'⟩
    · rw [if_neg (by rw [g1]; exact n10)] at K'
      rw [if_neg (by rw [g1']; exact n10)] at T
      by_cases m : a3 = -1
      · rw [if_pos m] at K' T
        rw [K']
        exact rl_30 A lt Ds h1 hx hu (Or.inl m) L0 LW T
      · rw [if_neg m] at K' T
        rcases C164 (x := a3) h1 Ds.2.2.2.1 Ds.2.2.2.2.1 Ds.2.1 with ⟨v, hv, hy, g2, g2'⟩ | ⟨g2, g2'⟩
        · rw [if_neg (by rw [g2]; exact n10)] at K'
          rw [if_neg (by rw [g2']; exact n10)] at T
          rw [K']
          exact rl_30 A lt Ds h1 hx hu (Or.inr ⟨v, hv, hy⟩) L0 LW T
        · rw [if_pos g2, bad] at K'
          rw [if_pos g2'] at T
          exact fin K' T
    · rw [if_pos g1, bad] at K'
      rw [if_pos g1'] at T
      exact fin K' T
  · rw [if_pos e1'] at T
    refine fin ?_ T
    rw [K, e1]
    exact bad
/-- wishes -/
theorem C45 (hP : rD h (.inl 60) 5 = W) (P6 : W ≤ 6) : ∀ (i j : Nat) (a3 : Int32), j + i = W → a3.toInt = (j : Int) → (∃ q, j ≤ q ∧ q < W ∧ h.2.1 (.inl 64) q = x ∧ h.2.1 (.inl 65) q = y ∧ g45_2 x y a3 h = 1) ∨ ((∀ q, j ≤ q → q < W → ¬ (h.2.1 (.inl 64) q = x ∧ h.2.1 (.inl 65) q = y)) ∧ g45_2 x y a3 h = 0)
  | 0, j, a3, e, ha => Or.inr ⟨fun q l1 l2 => by omega, by rw [g45_2_eq, if_pos (i_le hP ha (by omega))]⟩
  | i + 1, j, a3, e, ha => by
    have E := g45_2_eq x y a3 h
    rw [if_neg (i_nle hP ha (by omega)), i_cl ha] at E
    have nx := C45 hP P6 i (j + 1) (a3 + 1) (by omega) ((i_add ha k_1 (by omega) (by omega)).trans (by omega))
    by_cases m : h.2.1 (.inl 64) j = x ∧ h.2.1 (.inl 65) j = y
    · rw [if_neg (fun z => z m.1), if_neg (fun z => z m.2)] at E
      exact Or.inl ⟨j, Nat.le_refl _, by omega, m.1, m.2, E⟩
    · have E' : g45_2 x y a3 h = g45_2 x y (a3 + 1) h := by
        by_cases m1 : h.2.1 (.inl 64) j = x
        · rw [if_neg (fun z => z m1), if_pos (fun z => m ⟨m1, z⟩)] at E
          exact E
        · rw [if_pos m1] at E
          exact E
      rw [E']
      rcases nx with ⟨q, q1, q2, q3, q4, q5⟩ | ⟨q1, q2⟩
      · exact Or.inl ⟨q, by omega, q2, q3, q4, q5⟩
      · refine Or.inr ⟨fun q l1 l2 => ?_, q2⟩
        by_cases ej : q = j
        · rw [ej]
          exact m
        · exact q1 q (by omega) l2
def r_wi (h : mx_H) (W : Nat) (a1 a2 a3 : Int32) : mx_H := mx_uI (mx_uI (mx_uI (mx_uI h (.inl 143) W a1) (.inl 144) W a2) (.inl 145) W a3) (.inl 105) 56 (h.2.1 (.inl 105) 56 + 1)
def k_wi (h : mx_H) (W : Nat) (a1 a2 a3 : Int32) : mx_H := mx_uI (mx_uI (mx_uI (mx_uI h (.inl 64) W a1) (.inl 65) W a2) (.inl 66) W a3) (.inl 60) 5 (h.2.1 (.inl 60) 5 + 1)
theorem R240 (hP : rD h (.inl 105) 56 = W) (P6 : W ≤ 6) : ∀ (i j : Nat) (a4 : Int32), j + i = W → a4.toInt = (j : Int) → (∃ q, j ≤ q ∧ q < W ∧ h.2.1 (.inl 143) q = a1 ∧ h.2.1 (.inl 144) q = a2 ∧ g240_86 a1 a2 a3 a4 h = (-1, h)) ∨ ((∀ q, j ≤ q → q < W → ¬ (h.2.1 (.inl 143) q = a1 ∧ h.2.1 (.inl 144) q = a2)) ∧ g240_86 a1 a2 a3 a4 h = if h.2.1 (.inl 105) 56 ≠ 6 then (h.2.1 (.inl 105) 56 + 1, r_wi h W a1 a2 a3) else (-3, h))
  | 0, j, a4, e, ha => Or.inr ⟨fun q l1 l2 => by omega, by
      rw [g240_86_eq, if_pos (i_le hP ha (by omega))]
      have e : r_wi h W a1 a2 a3 = r_wi h (Int32.toNatClampNeg (h.2.1 (.inl 105) 56)) a1 a2 a3 := by rw [i_cl hP]
      rw [e]
      rfl⟩
  | i + 1, j, a4, e, ha => by
    have E := g240_86_eq a1 a2 a3 a4 h
    rw [if_neg (i_nle hP ha (by omega)), i_cl ha] at E
    have nx := R240 hP P6 i (j + 1) (a4 + 1) (by omega) ((i_add ha k_1 (by omega) (by omega)).trans (by omega))
    by_cases m : h.2.1 (.inl 143) j = a1 ∧ h.2.1 (.inl 144) j = a2
    · rw [if_neg (fun z => z m.1), if_neg (fun z => z m.2)] at E
      exact Or.inl ⟨j, Nat.le_refl _, by omega, m.1, m.2, E⟩
    · have E' : g240_86 a1 a2 a3 a4 h = g240_86 a1 a2 a3 (a4 + 1) h := by
        by_cases m1 : h.2.1 (.inl 143) j = a1
        · rw [if_neg (fun z => z m1), if_pos (fun z => m ⟨m1, z⟩)] at E
          exact E
        · rw [if_pos m1] at E
          exact E
      rw [E']
      rcases nx with ⟨q, q1, q2, q3, q4, q5⟩ | ⟨q1, q2⟩
      · exact Or.inl ⟨q, by omega, q2, q3, q4, q5⟩
      · refine Or.inr ⟨fun q l1 l2 => ?_, q2⟩
        by_cases ej : q = j
        · rw [ej]
          exact m
        · exact q1 q (by omega) l2
/-- tones are six at most -/
theorem C60b (C6 : C ≤ 6) (kc : rD h (.inr (s, 0)) 0 = C) : ∀ (j c m : Nat) (x y : Int32), c + j = C → m ≤ c → y.toInt = (c : Int) → x.toInt = (m : Int) → ∃ m', m' ≤ C ∧ (g60_4 s x y h).toInt = (m' : Int)
  | 0, c, m, x, y, e, hm, hy, hx => ⟨m, by omega, by rw [g60_4_eq, if_pos (i_le kc hy (by omega))]; exact hx⟩
  | j + 1, c, m, x, y, e, hm, hy, hx => by
    have hy1 : (y + 1).toInt = ((c + 1 : Nat) : Int) := (i_add hy k_1 (by omega) (by omega)).trans (by omega)
    rw [g60_4_eq, if_neg (i_nle kc hy (by omega))]
    split
    · exact C60b C6 kc j (c + 1) m x (y + 1) (by omega) (by omega) hy1 hx
    · exact C60b C6 kc j (c + 1) (m + 1) (x + 1) (y + 1) (by omega) (by omega) hy1 ((i_add hx k_1 (by omega) (by omega)).trans (by omega))
theorem rl_wish (L0 : rl_P hc hr S P) (LW : rl_W hc hr W) {rc rr : Int32 × mx_H} (K : rc = if f45 a1 a2 hc = 0 then (if hc.2.1 (.inl 60) 5 < 6 then ((f46 a1 a2 a3 hc).2.1 (.inl 60) 5, f46 a1 a2 a3 hc) else (-3, hc)) else (-1, hc)) (T : rr = g240_86 a1 a2 a3 0 hr) : rc.1 = rr.1 ∧ rt_L rc.2 rr.2 S := by
  obtain ⟨w1, w2, w3, w4⟩ := id LW
  rw [f45_eq] at K
  rcases C45 (x := a1) (y := a2) w2 w1 W 0 0 (by omega) rfl with ⟨q, q1, q2, q3, q4, q5⟩ | ⟨q1, q5⟩
  · rcases R240 (a1 := a1) (a2 := a2) (a3 := a3) w3 w1 W 0 0 (by omega) rfl with ⟨-, -, -, -, -, r⟩ | ⟨r, -⟩
    · rw [q5, if_neg n10] at K
      rw [K, T, r]
      exact ⟨rfl, ⟨P, L0⟩, W, LW⟩
    · exfalso
      obtain ⟨e1, e2, e3⟩ := w4 q q2
      exact r q q1 q2 ⟨e1.symm.trans q3, e2.symm.trans q4⟩
  · rcases R240 (a1 := a1) (a2 := a2) (a3 := a3) w3 w1 W 0 0 (by omega) rfl with ⟨q, r1, r2, r3, r4, r⟩ | ⟨-, r⟩
    · exfalso
      obtain ⟨e1, e2, e3⟩ := w4 q r2
      exact q1 q r1 r2 ⟨e1.trans r3, e2.trans r4⟩
    · rw [q5, if_pos rfl] at K
      rw [r] at T
      by_cases f : W = 6
      · rw [if_neg (i_nlt w2 k_6 (by omega))] at K
        rw [if_neg (fun z => z (i_eq w3 k_6 (by omega)))] at T
        rw [K, T]
        exact ⟨rfl, ⟨P, L0⟩, W, LW⟩
      · have C46 : f46 a1 a2 a3 hc = k_wi hc W a1 a2 a3 := by
          have e : k_wi hc W a1 a2 a3 = k_wi hc (Int32.toNatClampNeg (hc.2.1 (.inl 60) 5)) a1 a2 a3 := by rw [i_cl w2]
          rw [f46_eq, if_pos (i_lt w2 k_6 (by omega)), e]
          rfl
        rw [if_pos (i_lt w2 k_6 (by omega)), C46] at K
        rw [if_pos (show hr.2.1 (.inl 105) 56 ≠ 6 from i_ne w3 k_6 (by omega))] at T
        rw [K, T]
        have c1 : ∀ i, (k_wi hc W a1 a2 a3).2.1 (.inl 64) i = if i = W then a1 else hc.2.1 (.inl 64) i := fun i => (show (mx_uI hc (.inl 64) W a1).2.1 (.inl 64) i = _ from sh_i)
        have c2 : ∀ i, (k_wi hc W a1 a2 a3).2.1 (.inl 65) i = if i = W then a2 else hc.2.1 (.inl 65) i := fun i => (show (mx_uI (mx_uI hc (.inl 64) W a1) (.inl 65) W a2).2.1 (.inl 65) i = _ from sh_i)
        have c3 : ∀ i, (k_wi hc W a1 a2 a3).2.1 (.inl 66) i = if i = W then a3 else hc.2.1 (.inl 66) i := fun i => (show (mx_uI (mx_uI (mx_uI hc (.inl 64) W a1) (.inl 65) W a2) (.inl 66) W a3).2.1 (.inl 66) i = _ from sh_i)
        have d1 : ∀ i, (r_wi hr W a1 a2 a3).2.1 (.inl 143) i = if i = W then a1 else hr.2.1 (.inl 143) i := fun i => (show (mx_uI hr (.inl 143) W a1).2.1 (.inl 143) i = _ from sh_i)
        have d2 : ∀ i, (r_wi hr W a1 a2 a3).2.1 (.inl 144) i = if i = W then a2 else hr.2.1 (.inl 144) i := fun i => (show (mx_uI (mx_uI hr (.inl 143) W a1) (.inl 144) W a2).2.1 (.inl 144) i = _ from sh_i)
        have d3 : ∀ i, (r_wi hr W a1 a2 a3).2.1 (.inl 145) i = if i = W then a3 else hr.2.1 (.inl 145) i := fun i => (show (mx_uI (mx_uI (mx_uI hr (.inl 143) W a1) (.inl 144) W a2) (.inl 145) W a3).2.1 (.inl 145) i = _ from sh_i)
        refine ⟨?_, ⟨P, L0⟩, W + 1, by omega, ?_, ?_, fun j hj => ?_⟩
        · show hc.2.1 (.inl 60) 5 + 1 = hr.2.1 (.inl 105) 56 + 1
          rw [i_eq w2 w3 rfl]
        · show (hc.2.1 (.inl 60) 5 + 1).toInt = _
          exact (i_add w2 k_1 (by omega) (by omega)).trans (by omega)
        · show (hr.2.1 (.inl 105) 56 + 1).toInt = _
          exact (i_add w3 k_1 (by omega) (by omega)).trans (by omega)
        · show (k_wi hc W a1 a2 a3).2.1 (.inl 64) j = (r_wi hr W a1 a2 a3).2.1 (.inl 143) j ∧ (k_wi hc W a1 a2 a3).2.1 (.inl 65) j = (r_wi hr W a1 a2 a3).2.1 (.inl 144) j ∧ (k_wi hc W a1 a2 a3).2.1 (.inl 66) j = (r_wi hr W a1 a2 a3).2.1 (.inl 145) j
          rw [c1, c2, c3, d1, d2, d3]
          by_cases e : j = W
          · rw [if_pos e, if_pos e, if_pos e, if_pos e, if_pos e, if_pos e]
            exact ⟨rfl, rfl, rfl⟩
          · rw [if_neg e, if_neg e, if_neg e, if_neg e, if_neg e, if_neg e]
            exact w4 j (by omega)
theorem rs_wish (A : rs_A hc hr S N) (L : rt_L hc hr S) : (f121 a1 a2 a3 hc).1 = (f240 a1 a2 a3 hr).1 ∧ rt_L (f121 a1 a2 a3 hc).2 (f240 a1 a2 a3 hr).2 S := by
  obtain ⟨⟨P, L0⟩, W, LW⟩ := id L
  obtain ⟨l1, l2, l3, l4⟩ := id L0
  obtain ⟨A1, A2, A3, A4, A5, A6, A7, A8, A9, A10⟩ := id A
  have fin : ∀ {x : Int32}, f121 a1 a2 a3 hc = (x, hc) → f240 a1 a2 a3 hr = (x, hr) → (f121 a1 a2 a3 hc).1 = (f240 a1 a2 a3 hr).1 ∧ rt_L (f121 a1 a2 a3 hc).2 (f240 a1 a2 a3 hr).2 S := fun q1 q2 => by
    rw [q1, q2]
    exact ⟨rfl, L⟩
  have K := f121_eq a1 a2 a3 hc
  have T := f240_eq a1 a2 a3 hr
  rw [w_ws, w_ws, w_ws] at K
  by_cases z : P = 0
  · have no : f167 hc = none := by rw [f167_eq, if_pos (i_le l2 k_0 (by omega))]
    rw [if_neg (fun t => t (i_eq l3 k_0 (by omega)))] at T
    rw [no] at K
    by_cases c1 : f173 a1 0 5 = 0
    · rw [if_pos c1] at K T
      exact fin K T
    · rw [if_neg c1] at K T
      by_cases c2 : f173 a2 1 9 = 0
      · rw [if_pos c2] at K T
        exact fin K T
      · rw [if_neg c2] at K T
        by_cases c3 : f173 a3 0 99 = 0
        · rw [if_neg (fun t => t c3)] at K
          rw [if_pos c3] at T
          exact fin K T
        · rw [if_pos c3] at K
          rw [if_neg c3] at T
          exact fin K T
  · obtain ⟨s, t1, t2, t3, t4⟩ := l4 (by omega)
    obtain ⟨C, n, F, Ds⟩ := (A9 s t1).2
    have C6 := Ds.2.1
    have pl : f167 hc = some s := by
      rw [f167_eq, if_neg (i_nle l2 k_0 (by omega))]
      rcases C166 (a := hc.2.1 (.inl 60) 0) A with ⟨s', lt, h1, e1, -⟩ | ⟨-, e1'⟩
      · unfold rD at t2
        rw [e1, show s' = s by omega]
        rfl
      · exfalso
        rw [f177_eq, w173_1 t2 k_0 (i_sub A4 k_1 (by omega) (by omega)) (by omega)] at e1'
        exact n10 e1'
    have tn : f60 s hc = f195 (hr.2.1 (.inl 105) 52) hr := aw_tones Ds (by omega) t3
    obtain ⟨m, m1, m2⟩ := C60b C6 Ds.2.2.2.1 C 0 0 0 0 (by omega) (by omega) rfl rfl
    rw [← f60_eq] at m2
    rw [if_pos (show hr.2.1 (.inl 105) 51 ≠ 0 from i_ne l3 k_0 (by omega)), ← tn] at T
    rw [pl] at K
    have K' : f121 a1 a2 a3 hc = if f173 a1 0 5 = 0 then (-1, hc) else (if f173 a2 1 9 = 0 then (-1, hc) else (if f173 a3 0 99 ≠ 0 then (if f60 s hc ≤ a1 then (-1, hc) else (if f45 a1 a2 hc = 0 then (if hc.2.1 (.inl 60) 5 < 6 then ((f46 a1 a2 a3 hc).2.1 (.inl 60) 5, f46 a1 a2 a3 hc) else (-3, hc)) else (-1, hc))) else (-1, hc))) := K
    clear K
    have sm := i_sub m2 k_1 (by omega) (by omega)
    by_cases c1 : 0 ≤ a1.toInt ∧ a1.toInt ≤ (m : Int) - 1
    · rw [if_neg (by rw [w173_1 rfl k_0 k_5 (by omega)]; exact n10)] at K'
      rw [if_neg (by rw [w173_1 rfl k_0 sm c1]; exact n10)] at T
      by_cases c2 : f173 a2 1 9 = 0
      · rw [if_pos c2] at K' T
        exact fin K' T
      · rw [if_neg c2] at K' T
        by_cases c3 : f173 a3 0 99 ≠ 0
        · rw [if_pos c3] at K' T
          rw [if_neg (i_nle m2 rfl (by omega))] at K'
          exact rl_wish L0 LW K' T
        · rw [if_neg c3] at K' T
          exact fin K' T
    · rw [if_pos (w173_0 rfl k_0 sm c1)] at T
      refine fin ?_ T
      by_cases d1 : f173 a1 0 5 = 0
      · rw [K', if_pos d1]
      · rw [if_neg d1] at K'
        by_cases c2 : f173 a2 1 9 = 0
        · rw [K', if_pos c2]
        · rw [if_neg c2] at K'
          by_cases c3 : f173 a3 0 99 ≠ 0
          · have b5 : 0 ≤ a1.toInt ∧ a1.toInt ≤ 5 := Classical.byContradiction fun q => d1 (w173_0 rfl k_0 k_5 q)
            rw [K', if_pos c3, if_pos (i_le m2 rfl (by omega))]
          · rw [K', if_neg c3]
theorem rs_forget (L : rt_L hc hr S) : (f124 hc).1 = (f247 hr).1 ∧ rt_L (f124 hc).2 (f247 hr).2 S := by
  obtain ⟨⟨P, l1, l2, l3, l4⟩, -⟩ := L
  rw [f124_eq, f247_eq]
  exact ⟨i_eq l2 l3 rfl, ⟨0, by omega, rfl, rfl, fun z => absurd z (Nat.lt_irrefl 0)⟩, 0, by omega, rfl, rfl, fun j hj => absurd hj (Nat.not_lt_zero _)⟩
end RTI
