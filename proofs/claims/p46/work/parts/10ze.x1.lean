/-! ===== methods as functions (10ze.x1) ===== -/
noncomputable def f46 (a1 : Int32) (a2 : Int32) (a3 : Int32) (h : mx_H) : mx_H := x_box (if (h.2.1 (.inl 60) 5) < 6 then (mx_uI (mx_uI (mx_uI (mx_uI h (.inl 64) (Int32.toNatClampNeg (h.2.1 (.inl 60) 5)) a1) (.inl 65) (Int32.toNatClampNeg ((mx_uI h (.inl 64) (Int32.toNatClampNeg (h.2.1 (.inl 60) 5)) a1).2.1 (.inl 60) 5)) a2) (.inl 66) (Int32.toNatClampNeg ((mx_uI (mx_uI h (.inl 64) (Int32.toNatClampNeg (h.2.1 (.inl 60) 5)) a1) (.inl 65) (Int32.toNatClampNeg ((mx_uI h (.inl 64) (Int32.toNatClampNeg (h.2.1 (.inl 60) 5)) a1).2.1 (.inl 60) 5)) a2).2.1 (.inl 60) 5)) a3) (.inl 60) 5 (((mx_uI (mx_uI (mx_uI h (.inl 64) (Int32.toNatClampNeg (h.2.1 (.inl 60) 5)) a1) (.inl 65) (Int32.toNatClampNeg ((mx_uI h (.inl 64) (Int32.toNatClampNeg (h.2.1 (.inl 60) 5)) a1).2.1 (.inl 60) 5)) a2) (.inl 66) (Int32.toNatClampNeg ((mx_uI (mx_uI h (.inl 64) (Int32.toNatClampNeg (h.2.1 (.inl 60) 5)) a1) (.inl 65) (Int32.toNatClampNeg ((mx_uI h (.inl 64) (Int32.toNatClampNeg (h.2.1 (.inl 60) 5)) a1).2.1 (.inl 60) 5)) a2).2.1 (.inl 60) 5)) a3).2.1 (.inl 60) 5) + 1)) else h)
theorem f46_eq (a1 : Int32) (a2 : Int32) (a3 : Int32) (h : mx_H) : f46 a1 a2 a3 h = (if (h.2.1 (.inl 60) 5) < 6 then (mx_uI (mx_uI (mx_uI (mx_uI h (.inl 64) (Int32.toNatClampNeg (h.2.1 (.inl 60) 5)) a1) (.inl 65) (Int32.toNatClampNeg ((mx_uI h (.inl 64) (Int32.toNatClampNeg (h.2.1 (.inl 60) 5)) a1).2.1 (.inl 60) 5)) a2) (.inl 66) (Int32.toNatClampNeg ((mx_uI (mx_uI h (.inl 64) (Int32.toNatClampNeg (h.2.1 (.inl 60) 5)) a1) (.inl 65) (Int32.toNatClampNeg ((mx_uI h (.inl 64) (Int32.toNatClampNeg (h.2.1 (.inl 60) 5)) a1).2.1 (.inl 60) 5)) a2).2.1 (.inl 60) 5)) a3) (.inl 60) 5 (((mx_uI (mx_uI (mx_uI h (.inl 64) (Int32.toNatClampNeg (h.2.1 (.inl 60) 5)) a1) (.inl 65) (Int32.toNatClampNeg ((mx_uI h (.inl 64) (Int32.toNatClampNeg (h.2.1 (.inl 60) 5)) a1).2.1 (.inl 60) 5)) a2) (.inl 66) (Int32.toNatClampNeg ((mx_uI (mx_uI h (.inl 64) (Int32.toNatClampNeg (h.2.1 (.inl 60) 5)) a1) (.inl 65) (Int32.toNatClampNeg ((mx_uI h (.inl 64) (Int32.toNatClampNeg (h.2.1 (.inl 60) 5)) a1).2.1 (.inl 60) 5)) a2).2.1 (.inl 60) 5)) a3).2.1 (.inl 60) 5) + 1)) else h) := x_box_eq _
theorem x46 {E : mx_Ev} {n : Nat} {h : mx_H} {Q : Option mx_V → mx_H → Prop} {a1 : Int32} {a2 : Int32} {a3 : Int32} (hK : (xK_v Q) (f46 a1 a2 a3 h)) : mx_M E n 46 [.inr (.inl 60), .inl (.int a1), .inl (.int a2), .inl (.int a3)] h Q := by
  cases n with
  | zero => exact mx_L.zero
  | succ n => exact sl46_0 (x_use (x_eq (K := (xK_v Q)) (f46_eq a1 a2 a3 h) hK) (fun hK => (x_ite hK (fun hK => (fun _ => (fun _ => (fun _ => hK)))) (fun hK => hK))))
noncomputable def b47 : ((Int32 × Int32 × mx_H)) → ((Int32 × Int32 × mx_H)) ⊕ (Int32)
  | (a1, a2, h) => (if (h.2.1 (.inl 60) 5) ≤ a2 then (Sum.inr (a1 : Int32)) else (Sum.inl ((if a1 < (h.2.1 (.inl 64) (Int32.toNatClampNeg a2)) then (h.2.1 (.inl 64) (Int32.toNatClampNeg a2)) else a1), (a2 + 1), h)))
noncomputable def g47_4 (a1 : Int32) (a2 : Int32) (h : mx_H) : Int32 := ml_wh b47 (a1, a2, h)
theorem g47_4_eq (a1 : Int32) (a2 : Int32) (h : mx_H) : g47_4 a1 a2 h = (if (h.2.1 (.inl 60) 5) ≤ a2 then (a1 : Int32) else (g47_4 (if a1 < (h.2.1 (.inl 64) (Int32.toNatClampNeg a2)) then (h.2.1 (.inl 64) (Int32.toNatClampNeg a2)) else a1) (a2 + 1) h)) := by
  unfold g47_4
  rw [ml_wh_eq]
  simp only [b47, ml_go_ite, ml_go_l, ml_go_r, ml_go_opt, ml_go_let, ml_go_h, ml_go_val]
  try rfl
noncomputable def f47  (h : mx_H) : Int32 := x_box (g47_4 (-1) 0 h)
theorem f47_eq  (h : mx_H) : f47  h = (g47_4 (-1) 0 h) := x_box_eq _
theorem xw47 {E : mx_Ev} {Q : Option mx_V → mx_H → Prop} : ∀ n : Nat, (∀ (a1 : Int32) (a2 : Int32) (h : mx_H), (xK_ip Q h) (g47_4 a1 a2 h) → mx_L E n 47 4 [(0, .inr (.inl 60)), (1, .inl (.int a1)), (2, .inl (.int a2))] [] h Q)
  | 0 => fun _ _ _ _ => mx_L.zero
  | n + 1 => fun a1 a2 h hK => sl47_4 (x_use (x_eq (K := (xK_ip Q h)) (g47_4_eq a1 a2 h) hK) (fun hK => (x_ite hK (fun hK => hK) (fun hK => (fun _ => ((xw47 n) _ _ _ hK))))))
theorem x47 {E : mx_Ev} {n : Nat} {h : mx_H} {Q : Option mx_V → mx_H → Prop} (hK : (xK_ip Q h) (f47  h)) : mx_M E n 47 [.inr (.inl 60)] h Q := by
  cases n with
  | zero => exact mx_L.zero
  | succ n => exact sl47_0 (x_use (x_eq (K := (xK_ip Q h)) (f47_eq  h) hK) (fun hK => ((xw47 n) _ _ _ hK)))
noncomputable def f48 (a1 : Nat) (a2 : Nat) (a3 : Int32) (a4 : Int32) (h : mx_H) : Int32 × mx_H := x_box (if (h.2.1 (.inl 61) (Int32.toNatClampNeg a3)) ≠ 3 then (x_h (f26 a2 (h.2.1 (.inr (a1, 5)) (Int32.toNatClampNeg (h.2.1 (.inl 62) (Int32.toNatClampNeg a3)))) (h.2.1 (.inr (a1, 6)) (Int32.toNatClampNeg (h.2.1 (.inl 62) (Int32.toNatClampNeg a3)))) (((h.2.1 (.inr (a1, 7)) (Int32.toNatClampNeg (h.2.1 (.inl 62) (Int32.toNatClampNeg a3)))) - a4) - (if ((h.2.1 (.inr (a1, 7)) (Int32.toNatClampNeg (h.2.1 (.inl 62) (Int32.toNatClampNeg a3)))) - a4) < (h.2.1 (.inr (a1, 8)) (Int32.toNatClampNeg (h.2.1 (.inl 62) (Int32.toNatClampNeg a3)))) then ((h.2.1 (.inr (a1, 7)) (Int32.toNatClampNeg (h.2.1 (.inl 62) (Int32.toNatClampNeg a3)))) - a4) else (h.2.1 (.inr (a1, 8)) (Int32.toNatClampNeg (h.2.1 (.inl 62) (Int32.toNatClampNeg a3)))))) h) (fun h2 => (if ((h.2.1 (.inr (a1, 7)) (Int32.toNatClampNeg (h.2.1 (.inl 62) (Int32.toNatClampNeg a3)))) - a4) < 1 then ((0 : Int32), h2) else ((1 : Int32), h2)))) else (x_h (f25 a2 (h.2.1 (.inl 62) (Int32.toNatClampNeg a3)) ((h.2.1 (.inr (a1, 1)) (Int32.toNatClampNeg (h.2.1 (.inl 62) (Int32.toNatClampNeg a3)))) - a4) (h.2.1 (.inr (a1, 3)) (Int32.toNatClampNeg (h.2.1 (.inl 62) (Int32.toNatClampNeg a3)))) h) (fun h4 => (if (h4.2.1 (.inr (a1, 1)) (Int32.toNatClampNeg (h.2.1 (.inl 62) (Int32.toNatClampNeg a3)))) ≤ a4 then ((0 : Int32), h4) else ((1 : Int32), h4)))))
theorem f48_eq (a1 : Nat) (a2 : Nat) (a3 : Int32) (a4 : Int32) (h : mx_H) : f48 a1 a2 a3 a4 h = (if (h.2.1 (.inl 61) (Int32.toNatClampNeg a3)) ≠ 3 then (x_h (f26 a2 (h.2.1 (.inr (a1, 5)) (Int32.toNatClampNeg (h.2.1 (.inl 62) (Int32.toNatClampNeg a3)))) (h.2.1 (.inr (a1, 6)) (Int32.toNatClampNeg (h.2.1 (.inl 62) (Int32.toNatClampNeg a3)))) (((h.2.1 (.inr (a1, 7)) (Int32.toNatClampNeg (h.2.1 (.inl 62) (Int32.toNatClampNeg a3)))) - a4) - (if ((h.2.1 (.inr (a1, 7)) (Int32.toNatClampNeg (h.2.1 (.inl 62) (Int32.toNatClampNeg a3)))) - a4) < (h.2.1 (.inr (a1, 8)) (Int32.toNatClampNeg (h.2.1 (.inl 62) (Int32.toNatClampNeg a3)))) then ((h.2.1 (.inr (a1, 7)) (Int32.toNatClampNeg (h.2.1 (.inl 62) (Int32.toNatClampNeg a3)))) - a4) else (h.2.1 (.inr (a1, 8)) (Int32.toNatClampNeg (h.2.1 (.inl 62) (Int32.toNatClampNeg a3)))))) h) (fun h2 => (if ((h.2.1 (.inr (a1, 7)) (Int32.toNatClampNeg (h.2.1 (.inl 62) (Int32.toNatClampNeg a3)))) - a4) < 1 then ((0 : Int32), h2) else ((1 : Int32), h2)))) else (x_h (f25 a2 (h.2.1 (.inl 62) (Int32.toNatClampNeg a3)) ((h.2.1 (.inr (a1, 1)) (Int32.toNatClampNeg (h.2.1 (.inl 62) (Int32.toNatClampNeg a3)))) - a4) (h.2.1 (.inr (a1, 3)) (Int32.toNatClampNeg (h.2.1 (.inl 62) (Int32.toNatClampNeg a3)))) h) (fun h4 => (if (h4.2.1 (.inr (a1, 1)) (Int32.toNatClampNeg (h.2.1 (.inl 62) (Int32.toNatClampNeg a3)))) ≤ a4 then ((0 : Int32), h4) else ((1 : Int32), h4))))) := x_box_eq _
theorem x48 {E : mx_Ev} {n : Nat} {h : mx_H} {Q : Option mx_V → mx_H → Prop} {a1 : Nat} {a2 : Nat} {a3 : Int32} {a4 : Int32} (hK : (xK_i Q) (f48 a1 a2 a3 a4 h)) : mx_M E n 48 [.inr (.inl 60), .inr (.inr (a1, 0)), .inr (.inr (a2, 30)), .inl (.int a3), .inl (.int a4)] h Q := by
  cases n with
  | zero => exact mx_L.zero
  | succ n => exact sl48_0 (x_use (x_eq (K := (xK_i Q)) (f48_eq a1 a2 a3 a4 h) hK) (fun hK => (fun _ => (fun _ => (x_ite hK (fun hK => (fun _ => (fun _ => (fun _ => (fun _ => (x26 (xh_n (x_hk hK (fun hK => (x_ite hK (fun hK => (fun _ => hK)) (fun hK => (fun _ => hK)))))))))))) (fun hK => (fun _ => (fun _ => (x25 (xh_n (x_hk hK (fun hK => (fun _ => (x_ite hK (fun hK => (fun _ => hK)) (fun hK => (fun _ => hK))))))))))))))))
noncomputable def b51 : ((Nat × Nat × Int32 × Int32 × Int32 × mx_H) ⊕ (Nat × Int32 × Int32 × Int32 × Int32 × mx_H)) → ((Nat × Nat × Int32 × Int32 × Int32 × mx_H) ⊕ (Nat × Int32 × Int32 × Int32 × Int32 × mx_H)) ⊕ (mx_H)
  | (.inl (a1, a2, a3, a4, a5, h)) => (if (h.2.1 (.inl 60) 1) ≤ a5 then (Sum.inl (.inr (a2, a3, a4, 0, 0, h))) else (if (h.2.1 (.inl 67) (Int32.toNatClampNeg a5)) ≤ 0 then (Sum.inl (.inl (a1, a2, a3, a4, (a5 + 1), h))) else (x_let (f48 a1 a2 a5 (h.2.1 (.inl 67) (Int32.toNatClampNeg a5)) h) (fun x3 h2 => (if x3 ≠ 0 then (Sum.inl (.inl (a1, a2, a3, a4, (a5 + 1), h2))) else (Sum.inr h2))))))
  | (.inr (a2, a3, a4, a5, a6, h)) => (if (h.2.1 (.inl 60) 5) ≤ a6 then (if (h.2.1 (.inl 60) 10) ≤ a5 then (Sum.inr h) else (Sum.inr (mx_uI (mx_uI (mx_uI h (.inl 60) 10 a5) (.inl 60) 11 a3) (.inl 60) 12 a4))) else (if (h.2.1 (.inl 60) 10) ≤ a5 then (if (h.2.1 (.inl 60) 10) ≤ a5 then (Sum.inr h) else (Sum.inr (mx_uI (mx_uI (mx_uI h (.inl 60) 10 a5) (.inl 60) 11 a3) (.inl 60) 12 a4))) else (x_let (f33 a2 (h.2.1 (.inl 64) (Int32.toNatClampNeg a6)) (h.2.1 (.inl 65) (Int32.toNatClampNeg a6)) h) (fun x3 h2 => (Sum.inl (.inr (a2, a3, a4, (a5 + (if 0 ≤ (x3 - (h2.2.1 (.inl 66) (Int32.toNatClampNeg a6))) then (x3 - (h2.2.1 (.inl 66) (Int32.toNatClampNeg a6))) else 0 - (x3 - (h2.2.1 (.inl 66) (Int32.toNatClampNeg a6))))), (a6 + 1), h2)))))))
noncomputable def g51_8 (a1 : Nat) (a2 : Nat) (a3 : Int32) (a4 : Int32) (a5 : Int32) (h : mx_H) : mx_H := ml_wh b51 (.inl (a1, a2, a3, a4, a5, h))
noncomputable def g51_58 (a2 : Nat) (a3 : Int32) (a4 : Int32) (a5 : Int32) (a6 : Int32) (h : mx_H) : mx_H := ml_wh b51 (.inr (a2, a3, a4, a5, a6, h))
theorem g51_8_eq (a1 : Nat) (a2 : Nat) (a3 : Int32) (a4 : Int32) (a5 : Int32) (h : mx_H) : g51_8 a1 a2 a3 a4 a5 h = (if (h.2.1 (.inl 60) 1) ≤ a5 then (g51_58 a2 a3 a4 0 0 h) else (if (h.2.1 (.inl 67) (Int32.toNatClampNeg a5)) ≤ 0 then (g51_8 a1 a2 a3 a4 (a5 + 1) h) else (x_let (f48 a1 a2 a5 (h.2.1 (.inl 67) (Int32.toNatClampNeg a5)) h) (fun x3 h2 => (if x3 ≠ 0 then (g51_8 a1 a2 a3 a4 (a5 + 1) h2) else h2))))) := by
  unfold g51_8
  rw [ml_wh_eq]
  simp only [b51, ml_go_ite, ml_go_l, ml_go_r, ml_go_opt, ml_go_let, ml_go_h, ml_go_val]
  try rfl
theorem g51_58_eq (a2 : Nat) (a3 : Int32) (a4 : Int32) (a5 : Int32) (a6 : Int32) (h : mx_H) : g51_58 a2 a3 a4 a5 a6 h = (if (h.2.1 (.inl 60) 5) ≤ a6 then (if (h.2.1 (.inl 60) 10) ≤ a5 then h else (mx_uI (mx_uI (mx_uI h (.inl 60) 10 a5) (.inl 60) 11 a3) (.inl 60) 12 a4)) else (if (h.2.1 (.inl 60) 10) ≤ a5 then (if (h.2.1 (.inl 60) 10) ≤ a5 then h else (mx_uI (mx_uI (mx_uI h (.inl 60) 10 a5) (.inl 60) 11 a3) (.inl 60) 12 a4)) else (x_let (f33 a2 (h.2.1 (.inl 64) (Int32.toNatClampNeg a6)) (h.2.1 (.inl 65) (Int32.toNatClampNeg a6)) h) (fun x3 h2 => (g51_58 a2 a3 a4 (a5 + (if 0 ≤ (x3 - (h2.2.1 (.inl 66) (Int32.toNatClampNeg a6))) then (x3 - (h2.2.1 (.inl 66) (Int32.toNatClampNeg a6))) else 0 - (x3 - (h2.2.1 (.inl 66) (Int32.toNatClampNeg a6))))) (a6 + 1) h2))))) := by
  unfold g51_58
  rw [ml_wh_eq]
  simp only [b51, ml_go_ite, ml_go_l, ml_go_r, ml_go_opt, ml_go_let, ml_go_h, ml_go_val]
  try rfl
noncomputable def f51 (a1 : Nat) (a2 : Nat) (a3 : Int32) (a4 : Int32) (h : mx_H) : mx_H := x_box (x_h (f22 a2 a1 h) (fun h2 => (g51_8 a1 a2 a3 a4 0 h2)))
theorem f51_eq (a1 : Nat) (a2 : Nat) (a3 : Int32) (a4 : Int32) (h : mx_H) : f51 a1 a2 a3 a4 h = (x_h (f22 a2 a1 h) (fun h2 => (g51_8 a1 a2 a3 a4 0 h2))) := x_box_eq _
theorem xw51 {E : mx_Ev} {Q : Option mx_V → mx_H → Prop} : ∀ n : Nat, (∀ (a1 : Nat) (a2 : Nat) (a3 : Int32) (a4 : Int32) (a5 : Int32) (h : mx_H), (xK_v Q) (g51_8 a1 a2 a3 a4 a5 h) → mx_L E n 51 8 [(0, .inr (.inl 60)), (1, .inr (.inr (a1, 0))), (2, .inr (.inr (a2, 30))), (3, .inl (.int a3)), (4, .inl (.int a4)), (5, .inl (.int a5))] [] h Q) ∧ (∀ (a2 : Nat) (a3 : Int32) (a4 : Int32) (a5 : Int32) (a6 : Int32) (h : mx_H), (xK_v Q) (g51_58 a2 a3 a4 a5 a6 h) → mx_L E n 51 58 [(0, .inr (.inl 60)), (2, .inr (.inr (a2, 30))), (3, .inl (.int a3)), (4, .inl (.int a4)), (5, .inl (.int a5)), (6, .inl (.int a6))] [] h Q)
  | 0 => ⟨fun _ _ _ _ _ _ _ => mx_L.zero, fun _ _ _ _ _ _ _ => mx_L.zero⟩
  | n + 1 => ⟨fun a1 a2 a3 a4 a5 h hK => sl51_8 (x_use (x_eq (K := (xK_v Q)) (g51_8_eq a1 a2 a3 a4 a5 h) hK) (fun hK => (x_ite hK (fun hK => ((xw51 n).2 _ _ _ _ _ _ hK)) (fun hK => (fun _ => (x_ite hK (fun hK => ((xw51 n).1 _ _ _ _ _ _ hK)) (fun hK => (fun _ => (x48 (xh_i (x_letk hK (fun hK => (x_ite hK (fun hK => ((xw51 n).1 _ _ _ _ _ _ hK)) (fun hK => hK)))))))))))))), fun a2 a3 a4 a5 a6 h hK => sl51_58 (x_use (x_eq (K := (xK_v Q)) (g51_58_eq a2 a3 a4 a5 a6 h) hK) (fun hK => (x_ite hK (fun hK => (x_ite hK (fun hK => hK) (fun hK => hK))) (fun hK => (x_ite hK (fun hK => (x_ite hK (fun hK => hK) (fun hK => hK))) (fun hK => (fun _ => (fun _ => (x33 (xh_i (x_letk hK (fun hK => (fun _ => ((xw51 n).2 _ _ _ _ _ _ hK))))))))))))))⟩
theorem x51 {E : mx_Ev} {n : Nat} {h : mx_H} {Q : Option mx_V → mx_H → Prop} {a1 : Nat} {a2 : Nat} {a3 : Int32} {a4 : Int32} (hK : (xK_v Q) (f51 a1 a2 a3 a4 h)) : mx_M E n 51 [.inr (.inl 60), .inr (.inr (a1, 0)), .inr (.inr (a2, 30)), .inl (.int a3), .inl (.int a4)] h Q := by
  cases n with
  | zero => exact mx_L.zero
  | succ n => exact sl51_0 (x_use (x_eq (K := (xK_v Q)) (f51_eq a1 a2 a3 a4 h) hK) (fun hK => (x22 (xh_n (x_hk hK (fun hK => ((xw51 n).1 _ _ _ _ _ _ hK)))))))
noncomputable def f53 (a1 : Int32) (a2 : Int32) (h : mx_H) : mx_H := x_box (if (h.2.1 (.inl 80) 0) < 6 then (mx_uI (mx_uI (mx_uI h (.inl 81) (Int32.toNatClampNeg (h.2.1 (.inl 80) 0)) a1) (.inl 82) (Int32.toNatClampNeg ((mx_uI h (.inl 81) (Int32.toNatClampNeg (h.2.1 (.inl 80) 0)) a1).2.1 (.inl 80) 0)) a2) (.inl 80) 0 (((mx_uI (mx_uI h (.inl 81) (Int32.toNatClampNeg (h.2.1 (.inl 80) 0)) a1) (.inl 82) (Int32.toNatClampNeg ((mx_uI h (.inl 81) (Int32.toNatClampNeg (h.2.1 (.inl 80) 0)) a1).2.1 (.inl 80) 0)) a2).2.1 (.inl 80) 0) + 1)) else h)
theorem f53_eq (a1 : Int32) (a2 : Int32) (h : mx_H) : f53 a1 a2 h = (if (h.2.1 (.inl 80) 0) < 6 then (mx_uI (mx_uI (mx_uI h (.inl 81) (Int32.toNatClampNeg (h.2.1 (.inl 80) 0)) a1) (.inl 82) (Int32.toNatClampNeg ((mx_uI h (.inl 81) (Int32.toNatClampNeg (h.2.1 (.inl 80) 0)) a1).2.1 (.inl 80) 0)) a2) (.inl 80) 0 (((mx_uI (mx_uI h (.inl 81) (Int32.toNatClampNeg (h.2.1 (.inl 80) 0)) a1) (.inl 82) (Int32.toNatClampNeg ((mx_uI h (.inl 81) (Int32.toNatClampNeg (h.2.1 (.inl 80) 0)) a1).2.1 (.inl 80) 0)) a2).2.1 (.inl 80) 0) + 1)) else h) := x_box_eq _
theorem x53 {E : mx_Ev} {n : Nat} {h : mx_H} {Q : Option mx_V → mx_H → Prop} {a1 : Int32} {a2 : Int32} (hK : (xK_v Q) (f53 a1 a2 h)) : mx_M E n 53 [.inr (.inl 80), .inl (.int a1), .inl (.int a2)] h Q := by
  cases n with
  | zero => exact mx_L.zero
  | succ n => exact sl53_0 (x_use (x_eq (K := (xK_v Q)) (f53_eq a1 a2 h) hK) (fun hK => (x_ite hK (fun hK => (fun _ => (fun _ => hK))) (fun hK => hK))))
noncomputable def f54 (a1 : Int32) (a2 : Int32) (a3 : Int32) (a4 : Int32) (h : mx_H) : Int32 := x_box (if a4 < (if 0 ≤ (((h.2.1 (.inl 83) (Int32.toNatClampNeg a2)) * (h.2.1 (.inl 82) (Int32.toNatClampNeg a1))) - ((h.2.1 (.inl 83) (Int32.toNatClampNeg a3)) * (h.2.1 (.inl 81) (Int32.toNatClampNeg a1)))) then (((h.2.1 (.inl 83) (Int32.toNatClampNeg a2)) * (h.2.1 (.inl 82) (Int32.toNatClampNeg a1))) - ((h.2.1 (.inl 83) (Int32.toNatClampNeg a3)) * (h.2.1 (.inl 81) (Int32.toNatClampNeg a1)))) else 0 - (((h.2.1 (.inl 83) (Int32.toNatClampNeg a2)) * (h.2.1 (.inl 82) (Int32.toNatClampNeg a1))) - ((h.2.1 (.inl 83) (Int32.toNatClampNeg a3)) * (h.2.1 (.inl 81) (Int32.toNatClampNeg a1))))) then (0 : Int32) else (1 : Int32))
theorem f54_eq (a1 : Int32) (a2 : Int32) (a3 : Int32) (a4 : Int32) (h : mx_H) : f54 a1 a2 a3 a4 h = (if a4 < (if 0 ≤ (((h.2.1 (.inl 83) (Int32.toNatClampNeg a2)) * (h.2.1 (.inl 82) (Int32.toNatClampNeg a1))) - ((h.2.1 (.inl 83) (Int32.toNatClampNeg a3)) * (h.2.1 (.inl 81) (Int32.toNatClampNeg a1)))) then (((h.2.1 (.inl 83) (Int32.toNatClampNeg a2)) * (h.2.1 (.inl 82) (Int32.toNatClampNeg a1))) - ((h.2.1 (.inl 83) (Int32.toNatClampNeg a3)) * (h.2.1 (.inl 81) (Int32.toNatClampNeg a1)))) else 0 - (((h.2.1 (.inl 83) (Int32.toNatClampNeg a2)) * (h.2.1 (.inl 82) (Int32.toNatClampNeg a1))) - ((h.2.1 (.inl 83) (Int32.toNatClampNeg a3)) * (h.2.1 (.inl 81) (Int32.toNatClampNeg a1))))) then (0 : Int32) else (1 : Int32)) := x_box_eq _
theorem x54 {E : mx_Ev} {n : Nat} {h : mx_H} {Q : Option mx_V → mx_H → Prop} {a1 : Int32} {a2 : Int32} {a3 : Int32} {a4 : Int32} (hK : (xK_ip Q h) (f54 a1 a2 a3 a4 h)) : mx_M E n 54 [.inr (.inl 80), .inl (.int a1), .inl (.int a2), .inl (.int a3), .inl (.int a4)] h Q := by
  cases n with
  | zero => exact mx_L.zero
  | succ n => exact sl54_0 (x_use (x_eq (K := (xK_ip Q h)) (f54_eq a1 a2 a3 a4 h) hK) (fun hK => (fun _ => (fun _ => (fun _ => (fun _ => (x_ite hK (fun hK => (fun _ => hK)) (fun hK => (fun _ => hK)))))))))
noncomputable def b55 : ((Int32 × Int32 × Int32 × Int32 × mx_H)) → ((Int32 × Int32 × Int32 × Int32 × mx_H)) ⊕ (Int32)
  | (a1, a2, a3, a4, h) => (if a1 ≤ (a4 + 1) then (Sum.inr (a3 : Int32)) else (if (f54 a4 a4 (a4 + 1) a2 h) = 0 then (Sum.inl (a1, a2, a3, (a4 + 1), h)) else (Sum.inl (a1, a2, (a3 + 1), (a4 + 1), h))))
noncomputable def g55_5 (a1 : Int32) (a2 : Int32) (a3 : Int32) (a4 : Int32) (h : mx_H) : Int32 := ml_wh b55 (a1, a2, a3, a4, h)
theorem g55_5_eq (a1 : Int32) (a2 : Int32) (a3 : Int32) (a4 : Int32) (h : mx_H) : g55_5 a1 a2 a3 a4 h = (if a1 ≤ (a4 + 1) then (a3 : Int32) else (if (f54 a4 a4 (a4 + 1) a2 h) = 0 then (g55_5 a1 a2 a3 (a4 + 1) h) else (g55_5 a1 a2 (a3 + 1) (a4 + 1) h))) := by
  unfold g55_5
  rw [ml_wh_eq]
  simp only [b55, ml_go_ite, ml_go_l, ml_go_r, ml_go_opt, ml_go_let, ml_go_h, ml_go_val]
  try rfl
noncomputable def f55 (a1 : Int32) (a2 : Int32) (h : mx_H) : Int32 := x_box (g55_5 a1 a2 0 0 h)
theorem f55_eq (a1 : Int32) (a2 : Int32) (h : mx_H) : f55 a1 a2 h = (g55_5 a1 a2 0 0 h) := x_box_eq _
theorem xw55 {E : mx_Ev} {Q : Option mx_V → mx_H → Prop} : ∀ n : Nat, (∀ (a1 : Int32) (a2 : Int32) (a3 : Int32) (a4 : Int32) (h : mx_H), (xK_ip Q h) (g55_5 a1 a2 a3 a4 h) → mx_L E n 55 5 [(0, .inr (.inl 80)), (1, .inl (.int a1)), (2, .inl (.int a2)), (3, .inl (.int a3)), (4, .inl (.int a4))] [] h Q)
  | 0 => fun _ _ _ _ _ _ => mx_L.zero
  | n + 1 => fun a1 a2 a3 a4 h hK => sl55_5 (x_use (x_eq (K := (xK_ip Q h)) (g55_5_eq a1 a2 a3 a4 h) hK) (fun hK => (x_ite hK (fun hK => hK) (fun hK => (x54 (xh_i (x_ite hK (fun hK => ((xw55 n) _ _ _ _ _ hK)) (fun hK => ((xw55 n) _ _ _ _ _ hK)))))))))
theorem x55 {E : mx_Ev} {n : Nat} {h : mx_H} {Q : Option mx_V → mx_H → Prop} {a1 : Int32} {a2 : Int32} (hK : (xK_ip Q h) (f55 a1 a2 h)) : mx_M E n 55 [.inr (.inl 80), .inl (.int a1), .inl (.int a2)] h Q := by
  cases n with
  | zero => exact mx_L.zero
  | succ n => exact sl55_0 (x_use (x_eq (K := (xK_ip Q h)) (f55_eq a1 a2 h) hK) (fun hK => ((xw55 n) _ _ _ _ _ hK)))
noncomputable def f309 (a0 : Int32) : Int32 := x_box ((((((((a0 - (((a0.toUInt32 >>> (Int32.toUInt32 1 &&& Int32.toUInt32 31)).toInt32) &&& 1431655765)) &&& 858993459) + ((((a0 - (((a0.toUInt32 >>> (Int32.toUInt32 1 &&& Int32.toUInt32 31)).toInt32) &&& 1431655765)).toUInt32 >>> (Int32.toUInt32 2 &&& Int32.toUInt32 31)).toInt32) &&& 858993459)) + (((((a0 - (((a0.toUInt32 >>> (Int32.toUInt32 1 &&& Int32.toUInt32 31)).toInt32) &&& 1431655765)) &&& 858993459) + ((((a0 - (((a0.toUInt32 >>> (Int32.toUInt32 1 &&& Int32.toUInt32 31)).toInt32) &&& 1431655765)).toUInt32 >>> (Int32.toUInt32 2 &&& Int32.toUInt32 31)).toInt32) &&& 858993459)).toUInt32 >>> (Int32.toUInt32 4 &&& Int32.toUInt32 31)).toInt32)) &&& 252645135) + (((((((a0 - (((a0.toUInt32 >>> (Int32.toUInt32 1 &&& Int32.toUInt32 31)).toInt32) &&& 1431655765)) &&& 858993459) + ((((a0 - (((a0.toUInt32 >>> (Int32.toUInt32 1 &&& Int32.toUInt32 31)).toInt32) &&& 1431655765)).toUInt32 >>> (Int32.toUInt32 2 &&& Int32.toUInt32 31)).toInt32) &&& 858993459)) + (((((a0 - (((a0.toUInt32 >>> (Int32.toUInt32 1 &&& Int32.toUInt32 31)).toInt32) &&& 1431655765)) &&& 858993459) + ((((a0 - (((a0.toUInt32 >>> (Int32.toUInt32 1 &&& Int32.toUInt32 31)).toInt32) &&& 1431655765)).toUInt32 >>> (Int32.toUInt32 2 &&& Int32.toUInt32 31)).toInt32) &&& 858993459)).toUInt32 >>> (Int32.toUInt32 4 &&& Int32.toUInt32 31)).toInt32)) &&& 252645135).toUInt32 >>> (Int32.toUInt32 8 &&& Int32.toUInt32 31)).toInt32)) + ((((((((a0 - (((a0.toUInt32 >>> (Int32.toUInt32 1 &&& Int32.toUInt32 31)).toInt32) &&& 1431655765)) &&& 858993459) + ((((a0 - (((a0.toUInt32 >>> (Int32.toUInt32 1 &&& Int32.toUInt32 31)).toInt32) &&& 1431655765)).toUInt32 >>> (Int32.toUInt32 2 &&& Int32.toUInt32 31)).toInt32) &&& 858993459)) + (((((a0 - (((a0.toUInt32 >>> (Int32.toUInt32 1 &&& Int32.toUInt32 31)).toInt32) &&& 1431655765)) &&& 858993459) + ((((a0 - (((a0.toUInt32 >>> (Int32.toUInt32 1 &&& Int32.toUInt32 31)).toInt32) &&& 1431655765)).toUInt32 >>> (Int32.toUInt32 2 &&& Int32.toUInt32 31)).toInt32) &&& 858993459)).toUInt32 >>> (Int32.toUInt32 4 &&& Int32.toUInt32 31)).toInt32)) &&& 252645135) + (((((((a0 - (((a0.toUInt32 >>> (Int32.toUInt32 1 &&& Int32.toUInt32 31)).toInt32) &&& 1431655765)) &&& 858993459) + ((((a0 - (((a0.toUInt32 >>> (Int32.toUInt32 1 &&& Int32.toUInt32 31)).toInt32) &&& 1431655765)).toUInt32 >>> (Int32.toUInt32 2 &&& Int32.toUInt32 31)).toInt32) &&& 858993459)) + (((((a0 - (((a0.toUInt32 >>> (Int32.toUInt32 1 &&& Int32.toUInt32 31)).toInt32) &&& 1431655765)) &&& 858993459) + ((((a0 - (((a0.toUInt32 >>> (Int32.toUInt32 1 &&& Int32.toUInt32 31)).toInt32) &&& 1431655765)).toUInt32 >>> (Int32.toUInt32 2 &&& Int32.toUInt32 31)).toInt32) &&& 858993459)).toUInt32 >>> (Int32.toUInt32 4 &&& Int32.toUInt32 31)).toInt32)) &&& 252645135).toUInt32 >>> (Int32.toUInt32 8 &&& Int32.toUInt32 31)).toInt32)).toUInt32 >>> (Int32.toUInt32 16 &&& Int32.toUInt32 31)).toInt32)) &&& 63 : Int32)
theorem f309_eq (a0 : Int32) : f309 a0 = ((((((((a0 - (((a0.toUInt32 >>> (Int32.toUInt32 1 &&& Int32.toUInt32 31)).toInt32) &&& 1431655765)) &&& 858993459) + ((((a0 - (((a0.toUInt32 >>> (Int32.toUInt32 1 &&& Int32.toUInt32 31)).toInt32) &&& 1431655765)).toUInt32 >>> (Int32.toUInt32 2 &&& Int32.toUInt32 31)).toInt32) &&& 858993459)) + (((((a0 - (((a0.toUInt32 >>> (Int32.toUInt32 1 &&& Int32.toUInt32 31)).toInt32) &&& 1431655765)) &&& 858993459) + ((((a0 - (((a0.toUInt32 >>> (Int32.toUInt32 1 &&& Int32.toUInt32 31)).toInt32) &&& 1431655765)).toUInt32 >>> (Int32.toUInt32 2 &&& Int32.toUInt32 31)).toInt32) &&& 858993459)).toUInt32 >>> (Int32.toUInt32 4 &&& Int32.toUInt32 31)).toInt32)) &&& 252645135) + (((((((a0 - (((a0.toUInt32 >>> (Int32.toUInt32 1 &&& Int32.toUInt32 31)).toInt32) &&& 1431655765)) &&& 858993459) + ((((a0 - (((a0.toUInt32 >>> (Int32.toUInt32 1 &&& Int32.toUInt32 31)).toInt32) &&& 1431655765)).toUInt32 >>> (Int32.toUInt32 2 &&& Int32.toUInt32 31)).toInt32) &&& 858993459)) + (((((a0 - (((a0.toUInt32 >>> (Int32.toUInt32 1 &&& Int32.toUInt32 31)).toInt32) &&& 1431655765)) &&& 858993459) + ((((a0 - (((a0.toUInt32 >>> (Int32.toUInt32 1 &&& Int32.toUInt32 31)).toInt32) &&& 1431655765)).toUInt32 >>> (Int32.toUInt32 2 &&& Int32.toUInt32 31)).toInt32) &&& 858993459)).toUInt32 >>> (Int32.toUInt32 4 &&& Int32.toUInt32 31)).toInt32)) &&& 252645135).toUInt32 >>> (Int32.toUInt32 8 &&& Int32.toUInt32 31)).toInt32)) + ((((((((a0 - (((a0.toUInt32 >>> (Int32.toUInt32 1 &&& Int32.toUInt32 31)).toInt32) &&& 1431655765)) &&& 858993459) + ((((a0 - (((a0.toUInt32 >>> (Int32.toUInt32 1 &&& Int32.toUInt32 31)).toInt32) &&& 1431655765)).toUInt32 >>> (Int32.toUInt32 2 &&& Int32.toUInt32 31)).toInt32) &&& 858993459)) + (((((a0 - (((a0.toUInt32 >>> (Int32.toUInt32 1 &&& Int32.toUInt32 31)).toInt32) &&& 1431655765)) &&& 858993459) + ((((a0 - (((a0.toUInt32 >>> (Int32.toUInt32 1 &&& Int32.toUInt32 31)).toInt32) &&& 1431655765)).toUInt32 >>> (Int32.toUInt32 2 &&& Int32.toUInt32 31)).toInt32) &&& 858993459)).toUInt32 >>> (Int32.toUInt32 4 &&& Int32.toUInt32 31)).toInt32)) &&& 252645135) + (((((((a0 - (((a0.toUInt32 >>> (Int32.toUInt32 1 &&& Int32.toUInt32 31)).toInt32) &&& 1431655765)) &&& 858993459) + ((((a0 - (((a0.toUInt32 >>> (Int32.toUInt32 1 &&& Int32.toUInt32 31)).toInt32) &&& 1431655765)).toUInt32 >>> (Int32.toUInt32 2 &&& Int32.toUInt32 31)).toInt32) &&& 858993459)) + (((((a0 - (((a0.toUInt32 >>> (Int32.toUInt32 1 &&& Int32.toUInt32 31)).toInt32) &&& 1431655765)) &&& 858993459) + ((((a0 - (((a0.toUInt32 >>> (Int32.toUInt32 1 &&& Int32.toUInt32 31)).toInt32) &&& 1431655765)).toUInt32 >>> (Int32.toUInt32 2 &&& Int32.toUInt32 31)).toInt32) &&& 858993459)).toUInt32 >>> (Int32.toUInt32 4 &&& Int32.toUInt32 31)).toInt32)) &&& 252645135).toUInt32 >>> (Int32.toUInt32 8 &&& Int32.toUInt32 31)).toInt32)).toUInt32 >>> (Int32.toUInt32 16 &&& Int32.toUInt32 31)).toInt32)) &&& 63 : Int32) := x_box_eq _
theorem x309 {E : mx_Ev} {n : Nat} {h : mx_H} {Q : Option mx_V → mx_H → Prop} {a0 : Int32} (hK : (xK_ip Q h) (f309 a0)) : mx_M E n 309 [.inl (.int a0)] h Q := by
  cases n with
  | zero => exact mx_L.zero
  | succ n => exact sl309_0 (x_use (x_eq (K := (xK_ip Q h)) (f309_eq a0) hK) (fun hK => hK))
noncomputable def b57 : ((Int32 × Int32 × Int32 × Int32 × Int32 × Int32 × mx_H)) → ((Int32 × Int32 × Int32 × Int32 × Int32 × Int32 × mx_H)) ⊕ (Int32)
  | (a1, a2, a3, a4, a5, a6, h) => (if a1 ≤ a6 then (Sum.inr (1 : Int32)) else (if ((a3 >>> (a6 &&& 31)) &&& 1) = 0 then (if a5 < 0 then (Sum.inl (a1, a2, a3, (a4 + 1), a6, (a6 + 1), h)) else (if (f54 (a4 - 1) a5 a6 a2 h) ≠ 0 then (Sum.inl (a1, a2, a3, (a4 + 1), a6, (a6 + 1), h)) else (Sum.inr (0 : Int32)))) else (Sum.inl (a1, a2, a3, a4, a5, (a6 + 1), h))))
noncomputable def g57_9 (a1 : Int32) (a2 : Int32) (a3 : Int32) (a4 : Int32) (a5 : Int32) (a6 : Int32) (h : mx_H) : Int32 := ml_wh b57 (a1, a2, a3, a4, a5, a6, h)
theorem g57_9_eq (a1 : Int32) (a2 : Int32) (a3 : Int32) (a4 : Int32) (a5 : Int32) (a6 : Int32) (h : mx_H) : g57_9 a1 a2 a3 a4 a5 a6 h = (if a1 ≤ a6 then (1 : Int32) else (if ((a3 >>> (a6 &&& 31)) &&& 1) = 0 then (if a5 < 0 then (g57_9 a1 a2 a3 (a4 + 1) a6 (a6 + 1) h) else (if (f54 (a4 - 1) a5 a6 a2 h) ≠ 0 then (g57_9 a1 a2 a3 (a4 + 1) a6 (a6 + 1) h) else (0 : Int32))) else (g57_9 a1 a2 a3 a4 a5 (a6 + 1) h))) := by
  unfold g57_9
  rw [ml_wh_eq]
  simp only [b57, ml_go_ite, ml_go_l, ml_go_r, ml_go_opt, ml_go_let, ml_go_h, ml_go_val]
  try rfl
noncomputable def f57 (a1 : Int32) (a2 : Int32) (a3 : Int32) (h : mx_H) : Int32 := x_box (g57_9 a1 a2 a3 0 (-1) 0 h)
theorem f57_eq (a1 : Int32) (a2 : Int32) (a3 : Int32) (h : mx_H) : f57 a1 a2 a3 h = (g57_9 a1 a2 a3 0 (-1) 0 h) := x_box_eq _
theorem xw57 {E : mx_Ev} {Q : Option mx_V → mx_H → Prop} : ∀ n : Nat, (∀ (a1 : Int32) (a2 : Int32) (a3 : Int32) (a4 : Int32) (a5 : Int32) (a6 : Int32) (h : mx_H), (xK_ip Q h) (g57_9 a1 a2 a3 a4 a5 a6 h) → mx_L E n 57 9 [(0, .inr (.inl 80)), (1, .inl (.int a1)), (2, .inl (.int a2)), (3, .inl (.int a3)), (4, .inl (.int a4)), (5, .inl (.int a5)), (6, .inl (.int a6))] [] h Q)
  | 0 => fun _ _ _ _ _ _ _ _ => mx_L.zero
  | n + 1 => fun a1 a2 a3 a4 a5 a6 h hK => sl57_9 (x_use (x_eq (K := (xK_ip Q h)) (g57_9_eq a1 a2 a3 a4 a5 a6 h) hK) (fun hK => (x_ite hK (fun hK => (fun _ => hK)) (fun hK => (x_ite hK (fun hK => (x_ite hK (fun hK => ((xw57 n) _ _ _ _ _ _ _ hK)) (fun hK => (x54 (xh_i (x_ite hK (fun hK => ((xw57 n) _ _ _ _ _ _ _ hK)) (fun hK => (fun _ => hK)))))))) (fun hK => ((xw57 n) _ _ _ _ _ _ _ hK)))))))
theorem x57 {E : mx_Ev} {n : Nat} {h : mx_H} {Q : Option mx_V → mx_H → Prop} {a1 : Int32} {a2 : Int32} {a3 : Int32} (hK : (xK_ip Q h) (f57 a1 a2 a3 h)) : mx_M E n 57 [.inr (.inl 80), .inl (.int a1), .inl (.int a2), .inl (.int a3)] h Q := by
  cases n with
  | zero => exact mx_L.zero
  | succ n => exact sl57_0 (x_use (x_eq (K := (xK_ip Q h)) (f57_eq a1 a2 a3 h) hK) (fun hK => ((xw57 n) _ _ _ _ _ _ _ hK)))
noncomputable def b56 : ((Int32 × Int32 × Int32 × Int32 × mx_H)) → ((Int32 × Int32 × Int32 × Int32 × mx_H)) ⊕ (Int32)
  | (a1, a2, a3, a4, h) => (if a4 < 0 then (Sum.inr (a3 : Int32)) else (if (f309 a3) < (f309 a4) then (Sum.inl (a1, a2, a3, (a4 + (-1)), h)) else (if (f57 a1 a2 a4 h) = 0 then (Sum.inl (a1, a2, a3, (a4 + (-1)), h)) else (Sum.inl (a1, a2, a4, (a4 + (-1)), h)))))
noncomputable def g56_9 (a1 : Int32) (a2 : Int32) (a3 : Int32) (a4 : Int32) (h : mx_H) : Int32 := ml_wh b56 (a1, a2, a3, a4, h)
theorem g56_9_eq (a1 : Int32) (a2 : Int32) (a3 : Int32) (a4 : Int32) (h : mx_H) : g56_9 a1 a2 a3 a4 h = (if a4 < 0 then (a3 : Int32) else (if (f309 a3) < (f309 a4) then (g56_9 a1 a2 a3 (a4 + (-1)) h) else (if (f57 a1 a2 a4 h) = 0 then (g56_9 a1 a2 a3 (a4 + (-1)) h) else (g56_9 a1 a2 a4 (a4 + (-1)) h)))) := by
  unfold g56_9
  rw [ml_wh_eq]
  simp only [b56, ml_go_ite, ml_go_l, ml_go_r, ml_go_opt, ml_go_let, ml_go_h, ml_go_val]
  try rfl
noncomputable def f56 (a1 : Int32) (a2 : Int32) (h : mx_H) : Int32 := x_box (g56_9 a1 a2 ((1 <<< (a1 &&& 31)) - 2) ((1 <<< (a1 &&& 31)) - 2) h)
theorem f56_eq (a1 : Int32) (a2 : Int32) (h : mx_H) : f56 a1 a2 h = (g56_9 a1 a2 ((1 <<< (a1 &&& 31)) - 2) ((1 <<< (a1 &&& 31)) - 2) h) := x_box_eq _
theorem xw56 {E : mx_Ev} {Q : Option mx_V → mx_H → Prop} : ∀ n : Nat, (∀ (a1 : Int32) (a2 : Int32) (a3 : Int32) (a4 : Int32) (h : mx_H), (xK_ip Q h) (g56_9 a1 a2 a3 a4 h) → mx_L E n 56 9 [(0, .inr (.inl 80)), (1, .inl (.int a1)), (2, .inl (.int a2)), (3, .inl (.int a3)), (4, .inl (.int a4))] [] h Q)
  | 0 => fun _ _ _ _ _ _ => mx_L.zero
  | n + 1 => fun a1 a2 a3 a4 h hK => sl56_9 (x_use (x_eq (K := (xK_ip Q h)) (g56_9_eq a1 a2 a3 a4 h) hK) (fun hK => (x_ite hK (fun hK => hK) (fun hK => (x309 (xh_i (x309 (xh_i (x_ite hK (fun hK => ((xw56 n) _ _ _ _ _ hK)) (fun hK => (x57 (xh_i (x_ite hK (fun hK => ((xw56 n) _ _ _ _ _ hK)) (fun hK => ((xw56 n) _ _ _ _ _ hK)))))))))))))))
theorem x56 {E : mx_Ev} {n : Nat} {h : mx_H} {Q : Option mx_V → mx_H → Prop} {a1 : Int32} {a2 : Int32} (hK : (xK_ip Q h) (f56 a1 a2 h)) : mx_M E n 56 [.inr (.inl 80), .inl (.int a1), .inl (.int a2)] h Q := by
  cases n with
  | zero => exact mx_L.zero
  | succ n => exact sl56_0 (x_use (x_eq (K := (xK_ip Q h)) (f56_eq a1 a2 h) hK) (fun hK => ((xw56 n) _ _ _ _ _ hK)))
noncomputable def f59 (t0 : Nat) (h : mx_H) : mx_H := x_box (x_h (f317 (.inr (t0, 2)) 0 (mx_uI (mx_uI h (.inr (t0, 0)) 0 0) (.inr (t0, 0)) 6 0)) (fun h2 => (x_h (f317 (.inr (t0, 3)) 0 h2) (fun h4 => (x_h (f317 (.inr (t0, 4)) 0 h4) (fun h6 => (mx_uI (mx_uI h6 (.inr (t0, 0)) 11 (-1)) (.inr (t0, 0)) 12 (-1))))))))
theorem f59_eq (t0 : Nat) (h : mx_H) : f59 t0 h = (x_h (f317 (.inr (t0, 2)) 0 (mx_uI (mx_uI h (.inr (t0, 0)) 0 0) (.inr (t0, 0)) 6 0)) (fun h2 => (x_h (f317 (.inr (t0, 3)) 0 h2) (fun h4 => (x_h (f317 (.inr (t0, 4)) 0 h4) (fun h6 => (mx_uI (mx_uI h6 (.inr (t0, 0)) 11 (-1)) (.inr (t0, 0)) 12 (-1)))))))) := x_box_eq _
theorem x59 {E : mx_Ev} {n : Nat} {h : mx_H} {Q : Option mx_V → mx_H → Prop} {t0 : Nat} (hK : (xK_v Q) (f59 t0 h)) : mx_M E n 59 [.inr (.inr (t0, 0))] h Q := by
  cases n with
  | zero => exact mx_L.zero
  | succ n => exact sl59_0 (x_use (x_eq (K := (xK_v Q)) (f59_eq t0 h) hK) (fun hK => (x317 (xh_n (x_hk hK (fun hK => (x317 (xh_n (x_hk hK (fun hK => (x317 (xh_n (x_hk hK (fun hK => hK))))))))))))))
noncomputable def b61 : ((Nat × Int32 × Int32 × Int32 × mx_H)) → ((Nat × Int32 × Int32 × Int32 × mx_H)) ⊕ (Int32)
  | (a0, a1, a2, a3, h) => (if (h.2.1 (.inr (a0, 0)) 6) ≤ a3 then (Sum.inr ((-1) : Int32)) else (if (h.2.1 (.inr (a0, 5)) (Int32.toNatClampNeg a3)) ≠ (if a2 < a1 then a2 else a1) then (Sum.inl (a0, a1, a2, (a3 + 1), h)) else (if (h.2.1 (.inr (a0, 6)) (Int32.toNatClampNeg a3)) ≠ (if a1 < a2 then a2 else a1) then (Sum.inl (a0, a1, a2, (a3 + 1), h)) else (Sum.inr (a3 : Int32)))))
noncomputable def g61_2 (a0 : Nat) (a1 : Int32) (a2 : Int32) (a3 : Int32) (h : mx_H) : Int32 := ml_wh b61 (a0, a1, a2, a3, h)
theorem g61_2_eq (a0 : Nat) (a1 : Int32) (a2 : Int32) (a3 : Int32) (h : mx_H) : g61_2 a0 a1 a2 a3 h = (if (h.2.1 (.inr (a0, 0)) 6) ≤ a3 then ((-1) : Int32) else (if (h.2.1 (.inr (a0, 5)) (Int32.toNatClampNeg a3)) ≠ (if a2 < a1 then a2 else a1) then (g61_2 a0 a1 a2 (a3 + 1) h) else (if (h.2.1 (.inr (a0, 6)) (Int32.toNatClampNeg a3)) ≠ (if a1 < a2 then a2 else a1) then (g61_2 a0 a1 a2 (a3 + 1) h) else (a3 : Int32)))) := by
  unfold g61_2
  rw [ml_wh_eq]
  simp only [b61, ml_go_ite, ml_go_l, ml_go_r, ml_go_opt, ml_go_let, ml_go_h, ml_go_val]
  try rfl
noncomputable def f61 (t0 : Nat) (a1 : Int32) (a2 : Int32) (h : mx_H) : Int32 := x_box (g61_2 t0 a1 a2 0 h)
theorem f61_eq (t0 : Nat) (a1 : Int32) (a2 : Int32) (h : mx_H) : f61 t0 a1 a2 h = (g61_2 t0 a1 a2 0 h) := x_box_eq _
theorem xw61 {E : mx_Ev} {Q : Option mx_V → mx_H → Prop} : ∀ n : Nat, (∀ (a0 : Nat) (a1 : Int32) (a2 : Int32) (a3 : Int32) (h : mx_H), (xK_ip Q h) (g61_2 a0 a1 a2 a3 h) → mx_L E n 61 2 [(0, .inr (.inr (a0, 0))), (1, .inl (.int a1)), (2, .inl (.int a2)), (3, .inl (.int a3))] [] h Q)
  | 0 => fun _ _ _ _ _ _ => mx_L.zero
  | n + 1 => fun a0 a1 a2 a3 h hK => sl61_2 (x_use (x_eq (K := (xK_ip Q h)) (g61_2_eq a0 a1 a2 a3 h) hK) (fun hK => (x_ite hK (fun hK => hK) (fun hK => (fun _ => (x_ite hK (fun hK => ((xw61 n) _ _ _ _ _ hK)) (fun hK => (fun _ => (x_ite hK (fun hK => ((xw61 n) _ _ _ _ _ hK)) (fun hK => hK))))))))))
theorem x61 {E : mx_Ev} {n : Nat} {h : mx_H} {Q : Option mx_V → mx_H → Prop} {t0 : Nat} {a1 : Int32} {a2 : Int32} (hK : (xK_ip Q h) (f61 t0 a1 a2 h)) : mx_M E n 61 [.inr (.inr (t0, 0)), .inl (.int a1), .inl (.int a2)] h Q := by
  cases n with
  | zero => exact mx_L.zero
  | succ n => exact sl61_0 (x_use (x_eq (K := (xK_ip Q h)) (f61_eq t0 a1 a2 h) hK) (fun hK => ((xw61 n) _ _ _ _ _ hK)))
noncomputable def f62 (t0 : Nat) (a1 : Int32) (h : mx_H) : Int32 := x_box ((h.2.1 (.inr (t0, 7)) (Int32.toNatClampNeg a1)) - (h.2.1 (.inr (t0, 8)) (Int32.toNatClampNeg a1)) : Int32)
theorem f62_eq (t0 : Nat) (a1 : Int32) (h : mx_H) : f62 t0 a1 h = ((h.2.1 (.inr (t0, 7)) (Int32.toNatClampNeg a1)) - (h.2.1 (.inr (t0, 8)) (Int32.toNatClampNeg a1)) : Int32) := x_box_eq _
theorem x62 {E : mx_Ev} {n : Nat} {h : mx_H} {Q : Option mx_V → mx_H → Prop} {t0 : Nat} {a1 : Int32} (hK : (xK_ip Q h) (f62 t0 a1 h)) : mx_M E n 62 [.inr (.inr (t0, 0)), .inl (.int a1)] h Q := by
  cases n with
  | zero => exact mx_L.zero
  | succ n => exact sl62_0 (x_use (x_eq (K := (xK_ip Q h)) (f62_eq t0 a1 h) hK) (fun hK => (fun _ => (fun _ => hK))))
noncomputable def f63 (t0 : Nat) (a1 : Int32) (a2 : Int32) (a3 : Int32) (h : mx_H) : mx_H := x_box (if (h.2.1 (.inr (t0, 0)) 6) < 15 then (mx_uI (mx_uI (mx_uI (mx_uI (mx_uI h (.inr (t0, 5)) (Int32.toNatClampNeg (h.2.1 (.inr (t0, 0)) 6)) (if a2 < a1 then a2 else a1)) (.inr (t0, 6)) (Int32.toNatClampNeg ((mx_uI h (.inr (t0, 5)) (Int32.toNatClampNeg (h.2.1 (.inr (t0, 0)) 6)) (if a2 < a1 then a2 else a1)).2.1 (.inr (t0, 0)) 6)) (if a1 < a2 then a2 else a1)) (.inr (t0, 7)) (Int32.toNatClampNeg ((mx_uI (mx_uI h (.inr (t0, 5)) (Int32.toNatClampNeg (h.2.1 (.inr (t0, 0)) 6)) (if a2 < a1 then a2 else a1)) (.inr (t0, 6)) (Int32.toNatClampNeg ((mx_uI h (.inr (t0, 5)) (Int32.toNatClampNeg (h.2.1 (.inr (t0, 0)) 6)) (if a2 < a1 then a2 else a1)).2.1 (.inr (t0, 0)) 6)) (if a1 < a2 then a2 else a1)).2.1 (.inr (t0, 0)) 6)) a3) (.inr (t0, 8)) (Int32.toNatClampNeg ((mx_uI (mx_uI (mx_uI h (.inr (t0, 5)) (Int32.toNatClampNeg (h.2.1 (.inr (t0, 0)) 6)) (if a2 < a1 then a2 else a1)) (.inr (t0, 6)) (Int32.toNatClampNeg ((mx_uI h (.inr (t0, 5)) (Int32.toNatClampNeg (h.2.1 (.inr (t0, 0)) 6)) (if a2 < a1 then a2 else a1)).2.1 (.inr (t0, 0)) 6)) (if a1 < a2 then a2 else a1)) (.inr (t0, 7)) (Int32.toNatClampNeg ((mx_uI (mx_uI h (.inr (t0, 5)) (Int32.toNatClampNeg (h.2.1 (.inr (t0, 0)) 6)) (if a2 < a1 then a2 else a1)) (.inr (t0, 6)) (Int32.toNatClampNeg ((mx_uI h (.inr (t0, 5)) (Int32.toNatClampNeg (h.2.1 (.inr (t0, 0)) 6)) (if a2 < a1 then a2 else a1)).2.1 (.inr (t0, 0)) 6)) (if a1 < a2 then a2 else a1)).2.1 (.inr (t0, 0)) 6)) a3).2.1 (.inr (t0, 0)) 6)) 0) (.inr (t0, 0)) 6 (((mx_uI (mx_uI (mx_uI (mx_uI h (.inr (t0, 5)) (Int32.toNatClampNeg (h.2.1 (.inr (t0, 0)) 6)) (if a2 < a1 then a2 else a1)) (.inr (t0, 6)) (Int32.toNatClampNeg ((mx_uI h (.inr (t0, 5)) (Int32.toNatClampNeg (h.2.1 (.inr (t0, 0)) 6)) (if a2 < a1 then a2 else a1)).2.1 (.inr (t0, 0)) 6)) (if a1 < a2 then a2 else a1)) (.inr (t0, 7)) (Int32.toNatClampNeg ((mx_uI (mx_uI h (.inr (t0, 5)) (Int32.toNatClampNeg (h.2.1 (.inr (t0, 0)) 6)) (if a2 < a1 then a2 else a1)) (.inr (t0, 6)) (Int32.toNatClampNeg ((mx_uI h (.inr (t0, 5)) (Int32.toNatClampNeg (h.2.1 (.inr (t0, 0)) 6)) (if a2 < a1 then a2 else a1)).2.1 (.inr (t0, 0)) 6)) (if a1 < a2 then a2 else a1)).2.1 (.inr (t0, 0)) 6)) a3) (.inr (t0, 8)) (Int32.toNatClampNeg ((mx_uI (mx_uI (mx_uI h (.inr (t0, 5)) (Int32.toNatClampNeg (h.2.1 (.inr (t0, 0)) 6)) (if a2 < a1 then a2 else a1)) (.inr (t0, 6)) (Int32.toNatClampNeg ((mx_uI h (.inr (t0, 5)) (Int32.toNatClampNeg (h.2.1 (.inr (t0, 0)) 6)) (if a2 < a1 then a2 else a1)).2.1 (.inr (t0, 0)) 6)) (if a1 < a2 then a2 else a1)) (.inr (t0, 7)) (Int32.toNatClampNeg ((mx_uI (mx_uI h (.inr (t0, 5)) (Int32.toNatClampNeg (h.2.1 (.inr (t0, 0)) 6)) (if a2 < a1 then a2 else a1)) (.inr (t0, 6)) (Int32.toNatClampNeg ((mx_uI h (.inr (t0, 5)) (Int32.toNatClampNeg (h.2.1 (.inr (t0, 0)) 6)) (if a2 < a1 then a2 else a1)).2.1 (.inr (t0, 0)) 6)) (if a1 < a2 then a2 else a1)).2.1 (.inr (t0, 0)) 6)) a3).2.1 (.inr (t0, 0)) 6)) 0).2.1 (.inr (t0, 0)) 6) + 1)) else h)
theorem f63_eq (t0 : Nat) (a1 : Int32) (a2 : Int32) (a3 : Int32) (h : mx_H) : f63 t0 a1 a2 a3 h = (if (h.2.1 (.inr (t0, 0)) 6) < 15 then (mx_uI (mx_uI (mx_uI (mx_uI (mx_uI h (.inr (t0, 5)) (Int32.toNatClampNeg (h.2.1 (.inr (t0, 0)) 6)) (if a2 < a1 then a2 else a1)) (.inr (t0, 6)) (Int32.toNatClampNeg ((mx_uI h (.inr (t0, 5)) (Int32.toNatClampNeg (h.2.1 (.inr (t0, 0)) 6)) (if a2 < a1 then a2 else a1)).2.1 (.inr (t0, 0)) 6)) (if a1 < a2 then a2 else a1)) (.inr (t0, 7)) (Int32.toNatClampNeg ((mx_uI (mx_uI h (.inr (t0, 5)) (Int32.toNatClampNeg (h.2.1 (.inr (t0, 0)) 6)) (if a2 < a1 then a2 else a1)) (.inr (t0, 6)) (Int32.toNatClampNeg ((mx_uI h (.inr (t0, 5)) (Int32.toNatClampNeg (h.2.1 (.inr (t0, 0)) 6)) (if a2 < a1 then a2 else a1)).2.1 (.inr (t0, 0)) 6)) (if a1 < a2 then a2 else a1)).2.1 (.inr (t0, 0)) 6)) a3) (.inr (t0, 8)) (Int32.toNatClampNeg ((mx_uI (mx_uI (mx_uI h (.inr (t0, 5)) (Int32.toNatClampNeg (h.2.1 (.inr (t0, 0)) 6)) (if a2 < a1 then a2 else a1)) (.inr (t0, 6)) (Int32.toNatClampNeg ((mx_uI h (.inr (t0, 5)) (Int32.toNatClampNeg (h.2.1 (.inr (t0, 0)) 6)) (if a2 < a1 then a2 else a1)).2.1 (.inr (t0, 0)) 6)) (if a1 < a2 then a2 else a1)) (.inr (t0, 7)) (Int32.toNatClampNeg ((mx_uI (mx_uI h (.inr (t0, 5)) (Int32.toNatClampNeg (h.2.1 (.inr (t0, 0)) 6)) (if a2 < a1 then a2 else a1)) (.inr (t0, 6)) (Int32.toNatClampNeg ((mx_uI h (.inr (t0, 5)) (Int32.toNatClampNeg (h.2.1 (.inr (t0, 0)) 6)) (if a2 < a1 then a2 else a1)).2.1 (.inr (t0, 0)) 6)) (if a1 < a2 then a2 else a1)).2.1 (.inr (t0, 0)) 6)) a3).2.1 (.inr (t0, 0)) 6)) 0) (.inr (t0, 0)) 6 (((mx_uI (mx_uI (mx_uI (mx_uI h (.inr (t0, 5)) (Int32.toNatClampNeg (h.2.1 (.inr (t0, 0)) 6)) (if a2 < a1 then a2 else a1)) (.inr (t0, 6)) (Int32.toNatClampNeg ((mx_uI h (.inr (t0, 5)) (Int32.toNatClampNeg (h.2.1 (.inr (t0, 0)) 6)) (if a2 < a1 then a2 else a1)).2.1 (.inr (t0, 0)) 6)) (if a1 < a2 then a2 else a1)) (.inr (t0, 7)) (Int32.toNatClampNeg ((mx_uI (mx_uI h (.inr (t0, 5)) (Int32.toNatClampNeg (h.2.1 (.inr (t0, 0)) 6)) (if a2 < a1 then a2 else a1)) (.inr (t0, 6)) (Int32.toNatClampNeg ((mx_uI h (.inr (t0, 5)) (Int32.toNatClampNeg (h.2.1 (.inr (t0, 0)) 6)) (if a2 < a1 then a2 else a1)).2.1 (.inr (t0, 0)) 6)) (if a1 < a2 then a2 else a1)).2.1 (.inr (t0, 0)) 6)) a3) (.inr (t0, 8)) (Int32.toNatClampNeg ((mx_uI (mx_uI (mx_uI h (.inr (t0, 5)) (Int32.toNatClampNeg (h.2.1 (.inr (t0, 0)) 6)) (if a2 < a1 then a2 else a1)) (.inr (t0, 6)) (Int32.toNatClampNeg ((mx_uI h (.inr (t0, 5)) (Int32.toNatClampNeg (h.2.1 (.inr (t0, 0)) 6)) (if a2 < a1 then a2 else a1)).2.1 (.inr (t0, 0)) 6)) (if a1 < a2 then a2 else a1)) (.inr (t0, 7)) (Int32.toNatClampNeg ((mx_uI (mx_uI h (.inr (t0, 5)) (Int32.toNatClampNeg (h.2.1 (.inr (t0, 0)) 6)) (if a2 < a1 then a2 else a1)) (.inr (t0, 6)) (Int32.toNatClampNeg ((mx_uI h (.inr (t0, 5)) (Int32.toNatClampNeg (h.2.1 (.inr (t0, 0)) 6)) (if a2 < a1 then a2 else a1)).2.1 (.inr (t0, 0)) 6)) (if a1 < a2 then a2 else a1)).2.1 (.inr (t0, 0)) 6)) a3).2.1 (.inr (t0, 0)) 6)) 0).2.1 (.inr (t0, 0)) 6) + 1)) else h) := x_box_eq _
theorem x63 {E : mx_Ev} {n : Nat} {h : mx_H} {Q : Option mx_V → mx_H → Prop} {t0 : Nat} {a1 : Int32} {a2 : Int32} {a3 : Int32} (hK : (xK_v Q) (f63 t0 a1 a2 a3 h)) : mx_M E n 63 [.inr (.inr (t0, 0)), .inl (.int a1), .inl (.int a2), .inl (.int a3)] h Q := by
  cases n with
  | zero => exact mx_L.zero
  | succ n => exact sl63_0 (x_use (x_eq (K := (xK_v Q)) (f63_eq t0 a1 a2 a3 h) hK) (fun hK => (x_ite hK (fun hK => (fun _ => (fun _ => (fun _ => (fun _ => hK))))) (fun hK => hK))))
noncomputable def b64 : ((Nat × Nat × Int32 × Int32 × mx_H) ⊕ (Nat × Nat × Int32 × Int32 × mx_H)) → ((Nat × Nat × Int32 × Int32 × mx_H) ⊕ (Nat × Nat × Int32 × Int32 × mx_H)) ⊕ (mx_H)
  | (.inl (a0, a1, a2, a3, h)) => (if (h.2.1 (.inr (a1, 0)) 0) ≤ a3 then (Sum.inl (.inr (a0, a1, a2, 0, h))) else (if 6 ≤ (h.2.1 (.inr (a0, 0)) 0) then (Sum.inl (.inr (a0, a1, a2, 0, h))) else (Sum.inl (.inl (a0, a1, a2, (a3 + 1), mx_uI (mx_uI (mx_uI (mx_uI (mx_uI h (.inr (a0, 1)) (Int32.toNatClampNeg (h.2.1 (.inr (a0, 0)) 0)) (h.2.1 (.inr (a1, 1)) (Int32.toNatClampNeg a3))) (.inr (a0, 2)) (Int32.toNatClampNeg ((mx_uI h (.inr (a0, 1)) (Int32.toNatClampNeg (h.2.1 (.inr (a0, 0)) 0)) (h.2.1 (.inr (a1, 1)) (Int32.toNatClampNeg a3))).2.1 (.inr (a0, 0)) 0)) ((mx_uI h (.inr (a0, 1)) (Int32.toNatClampNeg (h.2.1 (.inr (a0, 0)) 0)) (h.2.1 (.inr (a1, 1)) (Int32.toNatClampNeg a3))).2.1 (.inr (a1, 2)) (Int32.toNatClampNeg a3))) (.inr (a0, 3)) (Int32.toNatClampNeg ((mx_uI (mx_uI h (.inr (a0, 1)) (Int32.toNatClampNeg (h.2.1 (.inr (a0, 0)) 0)) (h.2.1 (.inr (a1, 1)) (Int32.toNatClampNeg a3))) (.inr (a0, 2)) (Int32.toNatClampNeg ((mx_uI h (.inr (a0, 1)) (Int32.toNatClampNeg (h.2.1 (.inr (a0, 0)) 0)) (h.2.1 (.inr (a1, 1)) (Int32.toNatClampNeg a3))).2.1 (.inr (a0, 0)) 0)) ((mx_uI h (.inr (a0, 1)) (Int32.toNatClampNeg (h.2.1 (.inr (a0, 0)) 0)) (h.2.1 (.inr (a1, 1)) (Int32.toNatClampNeg a3))).2.1 (.inr (a1, 2)) (Int32.toNatClampNeg a3))).2.1 (.inr (a0, 0)) 0)) ((mx_uI (mx_uI h (.inr (a0, 1)) (Int32.toNatClampNeg (h.2.1 (.inr (a0, 0)) 0)) (h.2.1 (.inr (a1, 1)) (Int32.toNatClampNeg a3))) (.inr (a0, 2)) (Int32.toNatClampNeg ((mx_uI h (.inr (a0, 1)) (Int32.toNatClampNeg (h.2.1 (.inr (a0, 0)) 0)) (h.2.1 (.inr (a1, 1)) (Int32.toNatClampNeg a3))).2.1 (.inr (a0, 0)) 0)) ((mx_uI h (.inr (a0, 1)) (Int32.toNatClampNeg (h.2.1 (.inr (a0, 0)) 0)) (h.2.1 (.inr (a1, 1)) (Int32.toNatClampNeg a3))).2.1 (.inr (a1, 2)) (Int32.toNatClampNeg a3))).2.1 (.inr (a1, 3)) (Int32.toNatClampNeg a3))) (.inr (a0, 4)) (Int32.toNatClampNeg ((mx_uI (mx_uI (mx_uI h (.inr (a0, 1)) (Int32.toNatClampNeg (h.2.1 (.inr (a0, 0)) 0)) (h.2.1 (.inr (a1, 1)) (Int32.toNatClampNeg a3))) (.inr (a0, 2)) (Int32.toNatClampNeg ((mx_uI h (.inr (a0, 1)) (Int32.toNatClampNeg (h.2.1 (.inr (a0, 0)) 0)) (h.2.1 (.inr (a1, 1)) (Int32.toNatClampNeg a3))).2.1 (.inr (a0, 0)) 0)) ((mx_uI h (.inr (a0, 1)) (Int32.toNatClampNeg (h.2.1 (.inr (a0, 0)) 0)) (h.2.1 (.inr (a1, 1)) (Int32.toNatClampNeg a3))).2.1 (.inr (a1, 2)) (Int32.toNatClampNeg a3))) (.inr (a0, 3)) (Int32.toNatClampNeg ((mx_uI (mx_uI h (.inr (a0, 1)) (Int32.toNatClampNeg (h.2.1 (.inr (a0, 0)) 0)) (h.2.1 (.inr (a1, 1)) (Int32.toNatClampNeg a3))) (.inr (a0, 2)) (Int32.toNatClampNeg ((mx_uI h (.inr (a0, 1)) (Int32.toNatClampNeg (h.2.1 (.inr (a0, 0)) 0)) (h.2.1 (.inr (a1, 1)) (Int32.toNatClampNeg a3))).2.1 (.inr (a0, 0)) 0)) ((mx_uI h (.inr (a0, 1)) (Int32.toNatClampNeg (h.2.1 (.inr (a0, 0)) 0)) (h.2.1 (.inr (a1, 1)) (Int32.toNatClampNeg a3))).2.1 (.inr (a1, 2)) (Int32.toNatClampNeg a3))).2.1 (.inr (a0, 0)) 0)) ((mx_uI (mx_uI h (.inr (a0, 1)) (Int32.toNatClampNeg (h.2.1 (.inr (a0, 0)) 0)) (h.2.1 (.inr (a1, 1)) (Int32.toNatClampNeg a3))) (.inr (a0, 2)) (Int32.toNatClampNeg ((mx_uI h (.inr (a0, 1)) (Int32.toNatClampNeg (h.2.1 (.inr (a0, 0)) 0)) (h.2.1 (.inr (a1, 1)) (Int32.toNatClampNeg a3))).2.1 (.inr (a0, 0)) 0)) ((mx_uI h (.inr (a0, 1)) (Int32.toNatClampNeg (h.2.1 (.inr (a0, 0)) 0)) (h.2.1 (.inr (a1, 1)) (Int32.toNatClampNeg a3))).2.1 (.inr (a1, 2)) (Int32.toNatClampNeg a3))).2.1 (.inr (a1, 3)) (Int32.toNatClampNeg a3))).2.1 (.inr (a0, 0)) 0)) ((mx_uI (mx_uI (mx_uI h (.inr (a0, 1)) (Int32.toNatClampNeg (h.2.1 (.inr (a0, 0)) 0)) (h.2.1 (.inr (a1, 1)) (Int32.toNatClampNeg a3))) (.inr (a0, 2)) (Int32.toNatClampNeg ((mx_uI h (.inr (a0, 1)) (Int32.toNatClampNeg (h.2.1 (.inr (a0, 0)) 0)) (h.2.1 (.inr (a1, 1)) (Int32.toNatClampNeg a3))).2.1 (.inr (a0, 0)) 0)) ((mx_uI h (.inr (a0, 1)) (Int32.toNatClampNeg (h.2.1 (.inr (a0, 0)) 0)) (h.2.1 (.inr (a1, 1)) (Int32.toNatClampNeg a3))).2.1 (.inr (a1, 2)) (Int32.toNatClampNeg a3))) (.inr (a0, 3)) (Int32.toNatClampNeg ((mx_uI (mx_uI h (.inr (a0, 1)) (Int32.toNatClampNeg (h.2.1 (.inr (a0, 0)) 0)) (h.2.1 (.inr (a1, 1)) (Int32.toNatClampNeg a3))) (.inr (a0, 2)) (Int32.toNatClampNeg ((mx_uI h (.inr (a0, 1)) (Int32.toNatClampNeg (h.2.1 (.inr (a0, 0)) 0)) (h.2.1 (.inr (a1, 1)) (Int32.toNatClampNeg a3))).2.1 (.inr (a0, 0)) 0)) ((mx_uI h (.inr (a0, 1)) (Int32.toNatClampNeg (h.2.1 (.inr (a0, 0)) 0)) (h.2.1 (.inr (a1, 1)) (Int32.toNatClampNeg a3))).2.1 (.inr (a1, 2)) (Int32.toNatClampNeg a3))).2.1 (.inr (a0, 0)) 0)) ((mx_uI (mx_uI h (.inr (a0, 1)) (Int32.toNatClampNeg (h.2.1 (.inr (a0, 0)) 0)) (h.2.1 (.inr (a1, 1)) (Int32.toNatClampNeg a3))) (.inr (a0, 2)) (Int32.toNatClampNeg ((mx_uI h (.inr (a0, 1)) (Int32.toNatClampNeg (h.2.1 (.inr (a0, 0)) 0)) (h.2.1 (.inr (a1, 1)) (Int32.toNatClampNeg a3))).2.1 (.inr (a0, 0)) 0)) ((mx_uI h (.inr (a0, 1)) (Int32.toNatClampNeg (h.2.1 (.inr (a0, 0)) 0)) (h.2.1 (.inr (a1, 1)) (Int32.toNatClampNeg a3))).2.1 (.inr (a1, 2)) (Int32.toNatClampNeg a3))).2.1 (.inr (a1, 3)) (Int32.toNatClampNeg a3))).2.1 (.inr (a1, 4)) (Int32.toNatClampNeg a3))) (.inr (a0, 0)) 0 (((mx_uI (mx_uI (mx_uI (mx_uI h (.inr (a0, 1)) (Int32.toNatClampNeg (h.2.1 (.inr (a0, 0)) 0)) (h.2.1 (.inr (a1, 1)) (Int32.toNatClampNeg a3))) (.inr (a0, 2)) (Int32.toNatClampNeg ((mx_uI h (.inr (a0, 1)) (Int32.toNatClampNeg (h.2.1 (.inr (a0, 0)) 0)) (h.2.1 (.inr (a1, 1)) (Int32.toNatClampNeg a3))).2.1 (.inr (a0, 0)) 0)) ((mx_uI h (.inr (a0, 1)) (Int32.toNatClampNeg (h.2.1 (.inr (a0, 0)) 0)) (h.2.1 (.inr (a1, 1)) (Int32.toNatClampNeg a3))).2.1 (.inr (a1, 2)) (Int32.toNatClampNeg a3))) (.inr (a0, 3)) (Int32.toNatClampNeg ((mx_uI (mx_uI h (.inr (a0, 1)) (Int32.toNatClampNeg (h.2.1 (.inr (a0, 0)) 0)) (h.2.1 (.inr (a1, 1)) (Int32.toNatClampNeg a3))) (.inr (a0, 2)) (Int32.toNatClampNeg ((mx_uI h (.inr (a0, 1)) (Int32.toNatClampNeg (h.2.1 (.inr (a0, 0)) 0)) (h.2.1 (.inr (a1, 1)) (Int32.toNatClampNeg a3))).2.1 (.inr (a0, 0)) 0)) ((mx_uI h (.inr (a0, 1)) (Int32.toNatClampNeg (h.2.1 (.inr (a0, 0)) 0)) (h.2.1 (.inr (a1, 1)) (Int32.toNatClampNeg a3))).2.1 (.inr (a1, 2)) (Int32.toNatClampNeg a3))).2.1 (.inr (a0, 0)) 0)) ((mx_uI (mx_uI h (.inr (a0, 1)) (Int32.toNatClampNeg (h.2.1 (.inr (a0, 0)) 0)) (h.2.1 (.inr (a1, 1)) (Int32.toNatClampNeg a3))) (.inr (a0, 2)) (Int32.toNatClampNeg ((mx_uI h (.inr (a0, 1)) (Int32.toNatClampNeg (h.2.1 (.inr (a0, 0)) 0)) (h.2.1 (.inr (a1, 1)) (Int32.toNatClampNeg a3))).2.1 (.inr (a0, 0)) 0)) ((mx_uI h (.inr (a0, 1)) (Int32.toNatClampNeg (h.2.1 (.inr (a0, 0)) 0)) (h.2.1 (.inr (a1, 1)) (Int32.toNatClampNeg a3))).2.1 (.inr (a1, 2)) (Int32.toNatClampNeg a3))).2.1 (.inr (a1, 3)) (Int32.toNatClampNeg a3))) (.inr (a0, 4)) (Int32.toNatClampNeg ((mx_uI (mx_uI (mx_uI h (.inr (a0, 1)) (Int32.toNatClampNeg (h.2.1 (.inr (a0, 0)) 0)) (h.2.1 (.inr (a1, 1)) (Int32.toNatClampNeg a3))) (.inr (a0, 2)) (Int32.toNatClampNeg ((mx_uI h (.inr (a0, 1)) (Int32.toNatClampNeg (h.2.1 (.inr (a0, 0)) 0)) (h.2.1 (.inr (a1, 1)) (Int32.toNatClampNeg a3))).2.1 (.inr (a0, 0)) 0)) ((mx_uI h (.inr (a0, 1)) (Int32.toNatClampNeg (h.2.1 (.inr (a0, 0)) 0)) (h.2.1 (.inr (a1, 1)) (Int32.toNatClampNeg a3))).2.1 (.inr (a1, 2)) (Int32.toNatClampNeg a3))) (.inr (a0, 3)) (Int32.toNatClampNeg ((mx_uI (mx_uI h (.inr (a0, 1)) (Int32.toNatClampNeg (h.2.1 (.inr (a0, 0)) 0)) (h.2.1 (.inr (a1, 1)) (Int32.toNatClampNeg a3))) (.inr (a0, 2)) (Int32.toNatClampNeg ((mx_uI h (.inr (a0, 1)) (Int32.toNatClampNeg (h.2.1 (.inr (a0, 0)) 0)) (h.2.1 (.inr (a1, 1)) (Int32.toNatClampNeg a3))).2.1 (.inr (a0, 0)) 0)) ((mx_uI h (.inr (a0, 1)) (Int32.toNatClampNeg (h.2.1 (.inr (a0, 0)) 0)) (h.2.1 (.inr (a1, 1)) (Int32.toNatClampNeg a3))).2.1 (.inr (a1, 2)) (Int32.toNatClampNeg a3))).2.1 (.inr (a0, 0)) 0)) ((mx_uI (mx_uI h (.inr (a0, 1)) (Int32.toNatClampNeg (h.2.1 (.inr (a0, 0)) 0)) (h.2.1 (.inr (a1, 1)) (Int32.toNatClampNeg a3))) (.inr (a0, 2)) (Int32.toNatClampNeg ((mx_uI h (.inr (a0, 1)) (Int32.toNatClampNeg (h.2.1 (.inr (a0, 0)) 0)) (h.2.1 (.inr (a1, 1)) (Int32.toNatClampNeg a3))).2.1 (.inr (a0, 0)) 0)) ((mx_uI h (.inr (a0, 1)) (Int32.toNatClampNeg (h.2.1 (.inr (a0, 0)) 0)) (h.2.1 (.inr (a1, 1)) (Int32.toNatClampNeg a3))).2.1 (.inr (a1, 2)) (Int32.toNatClampNeg a3))).2.1 (.inr (a1, 3)) (Int32.toNatClampNeg a3))).2.1 (.inr (a0, 0)) 0)) ((mx_uI (mx_uI (mx_uI h (.inr (a0, 1)) (Int32.toNatClampNeg (h.2.1 (.inr (a0, 0)) 0)) (h.2.1 (.inr (a1, 1)) (Int32.toNatClampNeg a3))) (.inr (a0, 2)) (Int32.toNatClampNeg ((mx_uI h (.inr (a0, 1)) (Int32.toNatClampNeg (h.2.1 (.inr (a0, 0)) 0)) (h.2.1 (.inr (a1, 1)) (Int32.toNatClampNeg a3))).2.1 (.inr (a0, 0)) 0)) ((mx_uI h (.inr (a0, 1)) (Int32.toNatClampNeg (h.2.1 (.inr (a0, 0)) 0)) (h.2.1 (.inr (a1, 1)) (Int32.toNatClampNeg a3))).2.1 (.inr (a1, 2)) (Int32.toNatClampNeg a3))) (.inr (a0, 3)) (Int32.toNatClampNeg ((mx_uI (mx_uI h (.inr (a0, 1)) (Int32.toNatClampNeg (h.2.1 (.inr (a0, 0)) 0)) (h.2.1 (.inr (a1, 1)) (Int32.toNatClampNeg a3))) (.inr (a0, 2)) (Int32.toNatClampNeg ((mx_uI h (.inr (a0, 1)) (Int32.toNatClampNeg (h.2.1 (.inr (a0, 0)) 0)) (h.2.1 (.inr (a1, 1)) (Int32.toNatClampNeg a3))).2.1 (.inr (a0, 0)) 0)) ((mx_uI h (.inr (a0, 1)) (Int32.toNatClampNeg (h.2.1 (.inr (a0, 0)) 0)) (h.2.1 (.inr (a1, 1)) (Int32.toNatClampNeg a3))).2.1 (.inr (a1, 2)) (Int32.toNatClampNeg a3))).2.1 (.inr (a0, 0)) 0)) ((mx_uI (mx_uI h (.inr (a0, 1)) (Int32.toNatClampNeg (h.2.1 (.inr (a0, 0)) 0)) (h.2.1 (.inr (a1, 1)) (Int32.toNatClampNeg a3))) (.inr (a0, 2)) (Int32.toNatClampNeg ((mx_uI h (.inr (a0, 1)) (Int32.toNatClampNeg (h.2.1 (.inr (a0, 0)) 0)) (h.2.1 (.inr (a1, 1)) (Int32.toNatClampNeg a3))).2.1 (.inr (a0, 0)) 0)) ((mx_uI h (.inr (a0, 1)) (Int32.toNatClampNeg (h.2.1 (.inr (a0, 0)) 0)) (h.2.1 (.inr (a1, 1)) (Int32.toNatClampNeg a3))).2.1 (.inr (a1, 2)) (Int32.toNatClampNeg a3))).2.1 (.inr (a1, 3)) (Int32.toNatClampNeg a3))).2.1 (.inr (a1, 4)) (Int32.toNatClampNeg a3))).2.1 (.inr (a0, 0)) 0) + 1))))))
  | (.inr (a0, a1, a2, a3, h)) => (if (h.2.1 (.inr (a1, 0)) 6) ≤ a3 then (Sum.inr h) else (if 15 ≤ (h.2.1 (.inr (a0, 0)) 6) then (Sum.inr h) else (x_h (f63 a0 (a2 + (h.2.1 (.inr (a1, 5)) (Int32.toNatClampNeg a3))) (a2 + (h.2.1 (.inr (a1, 6)) (Int32.toNatClampNeg a3))) (h.2.1 (.inr (a1, 7)) (Int32.toNatClampNeg a3)) h) (fun h2 => (Sum.inl (.inr (a0, a1, a2, (a3 + 1), mx_uI h2 (.inr (a0, 8)) (Int32.toNatClampNeg ((h2.2.1 (.inr (a0, 0)) 6) - 1)) (h2.2.1 (.inr (a1, 8)) (Int32.toNatClampNeg a3)))))))))
noncomputable def g64_7 (a0 : Nat) (a1 : Nat) (a2 : Int32) (a3 : Int32) (h : mx_H) : mx_H := ml_wh b64 (.inl (a0, a1, a2, a3, h))
noncomputable def g64_102 (a0 : Nat) (a1 : Nat) (a2 : Int32) (a3 : Int32) (h : mx_H) : mx_H := ml_wh b64 (.inr (a0, a1, a2, a3, h))
theorem g64_7_eq (a0 : Nat) (a1 : Nat) (a2 : Int32) (a3 : Int32) (h : mx_H) : g64_7 a0 a1 a2 a3 h = (if (h.2.1 (.inr (a1, 0)) 0) ≤ a3 then (g64_102 a0 a1 a2 0 h) else (if 6 ≤ (h.2.1 (.inr (a0, 0)) 0) then (g64_102 a0 a1 a2 0 h) else (g64_7 a0 a1 a2 (a3 + 1) (mx_uI (mx_uI (mx_uI (mx_uI (mx_uI h (.inr (a0, 1)) (Int32.toNatClampNeg (h.2.1 (.inr (a0, 0)) 0)) (h.2.1 (.inr (a1, 1)) (Int32.toNatClampNeg a3))) (.inr (a0, 2)) (Int32.toNatClampNeg ((mx_uI h (.inr (a0, 1)) (Int32.toNatClampNeg (h.2.1 (.inr (a0, 0)) 0)) (h.2.1 (.inr (a1, 1)) (Int32.toNatClampNeg a3))).2.1 (.inr (a0, 0)) 0)) ((mx_uI h (.inr (a0, 1)) (Int32.toNatClampNeg (h.2.1 (.inr (a0, 0)) 0)) (h.2.1 (.inr (a1, 1)) (Int32.toNatClampNeg a3))).2.1 (.inr (a1, 2)) (Int32.toNatClampNeg a3))) (.inr (a0, 3)) (Int32.toNatClampNeg ((mx_uI (mx_uI h (.inr (a0, 1)) (Int32.toNatClampNeg (h.2.1 (.inr (a0, 0)) 0)) (h.2.1 (.inr (a1, 1)) (Int32.toNatClampNeg a3))) (.inr (a0, 2)) (Int32.toNatClampNeg ((mx_uI h (.inr (a0, 1)) (Int32.toNatClampNeg (h.2.1 (.inr (a0, 0)) 0)) (h.2.1 (.inr (a1, 1)) (Int32.toNatClampNeg a3))).2.1 (.inr (a0, 0)) 0)) ((mx_uI h (.inr (a0, 1)) (Int32.toNatClampNeg (h.2.1 (.inr (a0, 0)) 0)) (h.2.1 (.inr (a1, 1)) (Int32.toNatClampNeg a3))).2.1 (.inr (a1, 2)) (Int32.toNatClampNeg a3))).2.1 (.inr (a0, 0)) 0)) ((mx_uI (mx_uI h (.inr (a0, 1)) (Int32.toNatClampNeg (h.2.1 (.inr (a0, 0)) 0)) (h.2.1 (.inr (a1, 1)) (Int32.toNatClampNeg a3))) (.inr (a0, 2)) (Int32.toNatClampNeg ((mx_uI h (.inr (a0, 1)) (Int32.toNatClampNeg (h.2.1 (.inr (a0, 0)) 0)) (h.2.1 (.inr (a1, 1)) (Int32.toNatClampNeg a3))).2.1 (.inr (a0, 0)) 0)) ((mx_uI h (.inr (a0, 1)) (Int32.toNatClampNeg (h.2.1 (.inr (a0, 0)) 0)) (h.2.1 (.inr (a1, 1)) (Int32.toNatClampNeg a3))).2.1 (.inr (a1, 2)) (Int32.toNatClampNeg a3))).2.1 (.inr (a1, 3)) (Int32.toNatClampNeg a3))) (.inr (a0, 4)) (Int32.toNatClampNeg ((mx_uI (mx_uI (mx_uI h (.inr (a0, 1)) (Int32.toNatClampNeg (h.2.1 (.inr (a0, 0)) 0)) (h.2.1 (.inr (a1, 1)) (Int32.toNatClampNeg a3))) (.inr (a0, 2)) (Int32.toNatClampNeg ((mx_uI h (.inr (a0, 1)) (Int32.toNatClampNeg (h.2.1 (.inr (a0, 0)) 0)) (h.2.1 (.inr (a1, 1)) (Int32.toNatClampNeg a3))).2.1 (.inr (a0, 0)) 0)) ((mx_uI h (.inr (a0, 1)) (Int32.toNatClampNeg (h.2.1 (.inr (a0, 0)) 0)) (h.2.1 (.inr (a1, 1)) (Int32.toNatClampNeg a3))).2.1 (.inr (a1, 2)) (Int32.toNatClampNeg a3))) (.inr (a0, 3)) (Int32.toNatClampNeg ((mx_uI (mx_uI h (.inr (a0, 1)) (Int32.toNatClampNeg (h.2.1 (.inr (a0, 0)) 0)) (h.2.1 (.inr (a1, 1)) (Int32.toNatClampNeg a3))) (.inr (a0, 2)) (Int32.toNatClampNeg ((mx_uI h (.inr (a0, 1)) (Int32.toNatClampNeg (h.2.1 (.inr (a0, 0)) 0)) (h.2.1 (.inr (a1, 1)) (Int32.toNatClampNeg a3))).2.1 (.inr (a0, 0)) 0)) ((mx_uI h (.inr (a0, 1)) (Int32.toNatClampNeg (h.2.1 (.inr (a0, 0)) 0)) (h.2.1 (.inr (a1, 1)) (Int32.toNatClampNeg a3))).2.1 (.inr (a1, 2)) (Int32.toNatClampNeg a3))).2.1 (.inr (a0, 0)) 0)) ((mx_uI (mx_uI h (.inr (a0, 1)) (Int32.toNatClampNeg (h.2.1 (.inr (a0, 0)) 0)) (h.2.1 (.inr (a1, 1)) (Int32.toNatClampNeg a3))) (.inr (a0, 2)) (Int32.toNatClampNeg ((mx_uI h (.inr (a0, 1)) (Int32.toNatClampNeg (h.2.1 (.inr (a0, 0)) 0)) (h.2.1 (.inr (a1, 1)) (Int32.toNatClampNeg a3))).2.1 (.inr (a0, 0)) 0)) ((mx_uI h (.inr (a0, 1)) (Int32.toNatClampNeg (h.2.1 (.inr (a0, 0)) 0)) (h.2.1 (.inr (a1, 1)) (Int32.toNatClampNeg a3))).2.1 (.inr (a1, 2)) (Int32.toNatClampNeg a3))).2.1 (.inr (a1, 3)) (Int32.toNatClampNeg a3))).2.1 (.inr (a0, 0)) 0)) ((mx_uI (mx_uI (mx_uI h (.inr (a0, 1)) (Int32.toNatClampNeg (h.2.1 (.inr (a0, 0)) 0)) (h.2.1 (.inr (a1, 1)) (Int32.toNatClampNeg a3))) (.inr (a0, 2)) (Int32.toNatClampNeg ((mx_uI h (.inr (a0, 1)) (Int32.toNatClampNeg (h.2.1 (.inr (a0, 0)) 0)) (h.2.1 (.inr (a1, 1)) (Int32.toNatClampNeg a3))).2.1 (.inr (a0, 0)) 0)) ((mx_uI h (.inr (a0, 1)) (Int32.toNatClampNeg (h.2.1 (.inr (a0, 0)) 0)) (h.2.1 (.inr (a1, 1)) (Int32.toNatClampNeg a3))).2.1 (.inr (a1, 2)) (Int32.toNatClampNeg a3))) (.inr (a0, 3)) (Int32.toNatClampNeg ((mx_uI (mx_uI h (.inr (a0, 1)) (Int32.toNatClampNeg (h.2.1 (.inr (a0, 0)) 0)) (h.2.1 (.inr (a1, 1)) (Int32.toNatClampNeg a3))) (.inr (a0, 2)) (Int32.toNatClampNeg ((mx_uI h (.inr (a0, 1)) (Int32.toNatClampNeg (h.2.1 (.inr (a0, 0)) 0)) (h.2.1 (.inr (a1, 1)) (Int32.toNatClampNeg a3))).2.1 (.inr (a0, 0)) 0)) ((mx_uI h (.inr (a0, 1)) (Int32.toNatClampNeg (h.2.1 (.inr (a0, 0)) 0)) (h.2.1 (.inr (a1, 1)) (Int32.toNatClampNeg a3))).2.1 (.inr (a1, 2)) (Int32.toNatClampNeg a3))).2.1 (.inr (a0, 0)) 0)) ((mx_uI (mx_uI h (.inr (a0, 1)) (Int32.toNatClampNeg (h.2.1 (.inr (a0, 0)) 0)) (h.2.1 (.inr (a1, 1)) (Int32.toNatClampNeg a3))) (.inr (a0, 2)) (Int32.toNatClampNeg ((mx_uI h (.inr (a0, 1)) (Int32.toNatClampNeg (h.2.1 (.inr (a0, 0)) 0)) (h.2.1 (.inr (a1, 1)) (Int32.toNatClampNeg a3))).2.1 (.inr (a0, 0)) 0)) ((mx_uI h (.inr (a0, 1)) (Int32.toNatClampNeg (h.2.1 (.inr (a0, 0)) 0)) (h.2.1 (.inr (a1, 1)) (Int32.toNatClampNeg a3))).2.1 (.inr (a1, 2)) (Int32.toNatClampNeg a3))).2.1 (.inr (a1, 3)) (Int32.toNatClampNeg a3))).2.1 (.inr (a1, 4)) (Int32.toNatClampNeg a3))) (.inr (a0, 0)) 0 (((mx_uI (mx_uI (mx_uI (mx_uI h (.inr (a0, 1)) (Int32.toNatClampNeg (h.2.1 (.inr (a0, 0)) 0)) (h.2.1 (.inr (a1, 1)) (Int32.toNatClampNeg a3))) (.inr (a0, 2)) (Int32.toNatClampNeg ((mx_uI h (.inr (a0, 1)) (Int32.toNatClampNeg (h.2.1 (.inr (a0, 0)) 0)) (h.2.1 (.inr (a1, 1)) (Int32.toNatClampNeg a3))).2.1 (.inr (a0, 0)) 0)) ((mx_uI h (.inr (a0, 1)) (Int32.toNatClampNeg (h.2.1 (.inr (a0, 0)) 0)) (h.2.1 (.inr (a1, 1)) (Int32.toNatClampNeg a3))).2.1 (.inr (a1, 2)) (Int32.toNatClampNeg a3))) (.inr (a0, 3)) (Int32.toNatClampNeg ((mx_uI (mx_uI h (.inr (a0, 1)) (Int32.toNatClampNeg (h.2.1 (.inr (a0, 0)) 0)) (h.2.1 (.inr (a1, 1)) (Int32.toNatClampNeg a3))) (.inr (a0, 2)) (Int32.toNatClampNeg ((mx_uI h (.inr (a0, 1)) (Int32.toNatClampNeg (h.2.1 (.inr (a0, 0)) 0)) (h.2.1 (.inr (a1, 1)) (Int32.toNatClampNeg a3))).2.1 (.inr (a0, 0)) 0)) ((mx_uI h (.inr (a0, 1)) (Int32.toNatClampNeg (h.2.1 (.inr (a0, 0)) 0)) (h.2.1 (.inr (a1, 1)) (Int32.toNatClampNeg a3))).2.1 (.inr (a1, 2)) (Int32.toNatClampNeg a3))).2.1 (.inr (a0, 0)) 0)) ((mx_uI (mx_uI h (.inr (a0, 1)) (Int32.toNatClampNeg (h.2.1 (.inr (a0, 0)) 0)) (h.2.1 (.inr (a1, 1)) (Int32.toNatClampNeg a3))) (.inr (a0, 2)) (Int32.toNatClampNeg ((mx_uI h (.inr (a0, 1)) (Int32.toNatClampNeg (h.2.1 (.inr (a0, 0)) 0)) (h.2.1 (.inr (a1, 1)) (Int32.toNatClampNeg a3))).2.1 (.inr (a0, 0)) 0)) ((mx_uI h (.inr (a0, 1)) (Int32.toNatClampNeg (h.2.1 (.inr (a0, 0)) 0)) (h.2.1 (.inr (a1, 1)) (Int32.toNatClampNeg a3))).2.1 (.inr (a1, 2)) (Int32.toNatClampNeg a3))).2.1 (.inr (a1, 3)) (Int32.toNatClampNeg a3))) (.inr (a0, 4)) (Int32.toNatClampNeg ((mx_uI (mx_uI (mx_uI h (.inr (a0, 1)) (Int32.toNatClampNeg (h.2.1 (.inr (a0, 0)) 0)) (h.2.1 (.inr (a1, 1)) (Int32.toNatClampNeg a3))) (.inr (a0, 2)) (Int32.toNatClampNeg ((mx_uI h (.inr (a0, 1)) (Int32.toNatClampNeg (h.2.1 (.inr (a0, 0)) 0)) (h.2.1 (.inr (a1, 1)) (Int32.toNatClampNeg a3))).2.1 (.inr (a0, 0)) 0)) ((mx_uI h (.inr (a0, 1)) (Int32.toNatClampNeg (h.2.1 (.inr (a0, 0)) 0)) (h.2.1 (.inr (a1, 1)) (Int32.toNatClampNeg a3))).2.1 (.inr (a1, 2)) (Int32.toNatClampNeg a3))) (.inr (a0, 3)) (Int32.toNatClampNeg ((mx_uI (mx_uI h (.inr (a0, 1)) (Int32.toNatClampNeg (h.2.1 (.inr (a0, 0)) 0)) (h.2.1 (.inr (a1, 1)) (Int32.toNatClampNeg a3))) (.inr (a0, 2)) (Int32.toNatClampNeg ((mx_uI h (.inr (a0, 1)) (Int32.toNatClampNeg (h.2.1 (.inr (a0, 0)) 0)) (h.2.1 (.inr (a1, 1)) (Int32.toNatClampNeg a3))).2.1 (.inr (a0, 0)) 0)) ((mx_uI h (.inr (a0, 1)) (Int32.toNatClampNeg (h.2.1 (.inr (a0, 0)) 0)) (h.2.1 (.inr (a1, 1)) (Int32.toNatClampNeg a3))).2.1 (.inr (a1, 2)) (Int32.toNatClampNeg a3))).2.1 (.inr (a0, 0)) 0)) ((mx_uI (mx_uI h (.inr (a0, 1)) (Int32.toNatClampNeg (h.2.1 (.inr (a0, 0)) 0)) (h.2.1 (.inr (a1, 1)) (Int32.toNatClampNeg a3))) (.inr (a0, 2)) (Int32.toNatClampNeg ((mx_uI h (.inr (a0, 1)) (Int32.toNatClampNeg (h.2.1 (.inr (a0, 0)) 0)) (h.2.1 (.inr (a1, 1)) (Int32.toNatClampNeg a3))).2.1 (.inr (a0, 0)) 0)) ((mx_uI h (.inr (a0, 1)) (Int32.toNatClampNeg (h.2.1 (.inr (a0, 0)) 0)) (h.2.1 (.inr (a1, 1)) (Int32.toNatClampNeg a3))).2.1 (.inr (a1, 2)) (Int32.toNatClampNeg a3))).2.1 (.inr (a1, 3)) (Int32.toNatClampNeg a3))).2.1 (.inr (a0, 0)) 0)) ((mx_uI (mx_uI (mx_uI h (.inr (a0, 1)) (Int32.toNatClampNeg (h.2.1 (.inr (a0, 0)) 0)) (h.2.1 (.inr (a1, 1)) (Int32.toNatClampNeg a3))) (.inr (a0, 2)) (Int32.toNatClampNeg ((mx_uI h (.inr (a0, 1)) (Int32.toNatClampNeg (h.2.1 (.inr (a0, 0)) 0)) (h.2.1 (.inr (a1, 1)) (Int32.toNatClampNeg a3))).2.1 (.inr (a0, 0)) 0)) ((mx_uI h (.inr (a0, 1)) (Int32.toNatClampNeg (h.2.1 (.inr (a0, 0)) 0)) (h.2.1 (.inr (a1, 1)) (Int32.toNatClampNeg a3))).2.1 (.inr (a1, 2)) (Int32.toNatClampNeg a3))) (.inr (a0, 3)) (Int32.toNatClampNeg ((mx_uI (mx_uI h (.inr (a0, 1)) (Int32.toNatClampNeg (h.2.1 (.inr (a0, 0)) 0)) (h.2.1 (.inr (a1, 1)) (Int32.toNatClampNeg a3))) (.inr (a0, 2)) (Int32.toNatClampNeg ((mx_uI h (.inr (a0, 1)) (Int32.toNatClampNeg (h.2.1 (.inr (a0, 0)) 0)) (h.2.1 (.inr (a1, 1)) (Int32.toNatClampNeg a3))).2.1 (.inr (a0, 0)) 0)) ((mx_uI h (.inr (a0, 1)) (Int32.toNatClampNeg (h.2.1 (.inr (a0, 0)) 0)) (h.2.1 (.inr (a1, 1)) (Int32.toNatClampNeg a3))).2.1 (.inr (a1, 2)) (Int32.toNatClampNeg a3))).2.1 (.inr (a0, 0)) 0)) ((mx_uI (mx_uI h (.inr (a0, 1)) (Int32.toNatClampNeg (h.2.1 (.inr (a0, 0)) 0)) (h.2.1 (.inr (a1, 1)) (Int32.toNatClampNeg a3))) (.inr (a0, 2)) (Int32.toNatClampNeg ((mx_uI h (.inr (a0, 1)) (Int32.toNatClampNeg (h.2.1 (.inr (a0, 0)) 0)) (h.2.1 (.inr (a1, 1)) (Int32.toNatClampNeg a3))).2.1 (.inr (a0, 0)) 0)) ((mx_uI h (.inr (a0, 1)) (Int32.toNatClampNeg (h.2.1 (.inr (a0, 0)) 0)) (h.2.1 (.inr (a1, 1)) (Int32.toNatClampNeg a3))).2.1 (.inr (a1, 2)) (Int32.toNatClampNeg a3))).2.1 (.inr (a1, 3)) (Int32.toNatClampNeg a3))).2.1 (.inr (a1, 4)) (Int32.toNatClampNeg a3))).2.1 (.inr (a0, 0)) 0) + 1))))) := by
  unfold g64_7
  rw [ml_wh_eq]
  simp only [b64, ml_go_ite, ml_go_l, ml_go_r, ml_go_opt, ml_go_let, ml_go_h, ml_go_val]
  try rfl
theorem g64_102_eq (a0 : Nat) (a1 : Nat) (a2 : Int32) (a3 : Int32) (h : mx_H) : g64_102 a0 a1 a2 a3 h = (if (h.2.1 (.inr (a1, 0)) 6) ≤ a3 then h else (if 15 ≤ (h.2.1 (.inr (a0, 0)) 6) then h else (x_h (f63 a0 (a2 + (h.2.1 (.inr (a1, 5)) (Int32.toNatClampNeg a3))) (a2 + (h.2.1 (.inr (a1, 6)) (Int32.toNatClampNeg a3))) (h.2.1 (.inr (a1, 7)) (Int32.toNatClampNeg a3)) h) (fun h2 => (g64_102 a0 a1 a2 (a3 + 1) (mx_uI h2 (.inr (a0, 8)) (Int32.toNatClampNeg ((h2.2.1 (.inr (a0, 0)) 6) - 1)) (h2.2.1 (.inr (a1, 8)) (Int32.toNatClampNeg a3)))))))) := by
  unfold g64_102
  rw [ml_wh_eq]
  simp only [b64, ml_go_ite, ml_go_l, ml_go_r, ml_go_opt, ml_go_let, ml_go_h, ml_go_val]
  try rfl
noncomputable def f64 (t0 : Nat) (a1 : Nat) (h : mx_H) : mx_H := x_box (g64_7 t0 a1 (h.2.1 (.inr (t0, 0)) 0) 0 h)
theorem f64_eq (t0 : Nat) (a1 : Nat) (h : mx_H) : f64 t0 a1 h = (g64_7 t0 a1 (h.2.1 (.inr (t0, 0)) 0) 0 h) := x_box_eq _
theorem xw64 {E : mx_Ev} {Q : Option mx_V → mx_H → Prop} : ∀ n : Nat, (∀ (a0 : Nat) (a1 : Nat) (a2 : Int32) (a3 : Int32) (h : mx_H), (xK_v Q) (g64_7 a0 a1 a2 a3 h) → mx_L E n 64 7 [(0, .inr (.inr (a0, 0))), (1, .inr (.inr (a1, 0))), (2, .inl (.int a2)), (3, .inl (.int a3))] [] h Q) ∧ (∀ (a0 : Nat) (a1 : Nat) (a2 : Int32) (a3 : Int32) (h : mx_H), (xK_v Q) (g64_102 a0 a1 a2 a3 h) → mx_L E n 64 102 [(0, .inr (.inr (a0, 0))), (1, .inr (.inr (a1, 0))), (2, .inl (.int a2)), (3, .inl (.int a3))] [] h Q)
  | 0 => ⟨fun _ _ _ _ _ _ => mx_L.zero, fun _ _ _ _ _ _ => mx_L.zero⟩
  | n + 1 => ⟨fun a0 a1 a2 a3 h hK => sl64_7 (x_use (x_eq (K := (xK_v Q)) (g64_7_eq a0 a1 a2 a3 h) hK) (fun hK => (x_ite hK (fun hK => ((xw64 n).2 _ _ _ _ _ hK)) (fun hK => (x_ite hK (fun hK => ((xw64 n).2 _ _ _ _ _ hK)) (fun hK => (fun _ => (fun _ => (fun _ => (fun _ => (fun _ => (fun _ => (fun _ => (fun _ => ((xw64 n).1 _ _ _ _ _ hK))))))))))))))), fun a0 a1 a2 a3 h hK => sl64_102 (x_use (x_eq (K := (xK_v Q)) (g64_102_eq a0 a1 a2 a3 h) hK) (fun hK => (x_ite hK (fun hK => hK) (fun hK => (x_ite hK (fun hK => hK) (fun hK => (fun _ => (fun _ => (fun _ => (x63 (xh_n (x_hk hK (fun hK => (fun _ => (fun _ => ((xw64 n).2 _ _ _ _ _ hK))))))))))))))))⟩
theorem x64 {E : mx_Ev} {n : Nat} {h : mx_H} {Q : Option mx_V → mx_H → Prop} {t0 : Nat} {a1 : Nat} (hK : (xK_v Q) (f64 t0 a1 h)) : mx_M E n 64 [.inr (.inr (t0, 0)), .inr (.inr (a1, 0))] h Q := by
  cases n with
  | zero => exact mx_L.zero
  | succ n => exact sl64_0 (x_use (x_eq (K := (xK_v Q)) (f64_eq t0 a1 h) hK) (fun hK => ((xw64 n).1 _ _ _ _ _ hK)))
noncomputable def f65 (a0 : Int32) (a1 : Int32) : Int32 := x_box ((10 * a0) + a1 : Int32)
theorem f65_eq (a0 : Int32) (a1 : Int32) : f65 a0 a1 = ((10 * a0) + a1 : Int32) := x_box_eq _
theorem x65 {E : mx_Ev} {n : Nat} {h : mx_H} {Q : Option mx_V → mx_H → Prop} {a0 : Int32} {a1 : Int32} (hK : (xK_ip Q h) (f65 a0 a1)) : mx_M E n 65 [.inl (.int a0), .inl (.int a1)] h Q := by
  cases n with
  | zero => exact mx_L.zero
  | succ n => exact sl65_0 (x_use (x_eq (K := (xK_ip Q h)) (f65_eq a0 a1) hK) (fun hK => hK))
noncomputable def b66 : ((Nat × Int32 × mx_H) ⊕ (Nat × Int32 × mx_H) ⊕ (Nat × Int32 × mx_H) ⊕ (Nat × Int32 × mx_H) ⊕ (Nat × Int32 × mx_H)) → ((Nat × Int32 × mx_H) ⊕ (Nat × Int32 × mx_H) ⊕ (Nat × Int32 × mx_H) ⊕ (Nat × Int32 × mx_H) ⊕ (Nat × Int32 × mx_H)) ⊕ (Int32)
  | (.inl (a0, a2, h)) => (Sum.inr (h.2.1 (.inr (a0, 2)) (Int32.toNatClampNeg a2) : Int32))
  | (.inr (.inl (a0, a2, h))) => (Sum.inr (h.2.1 (.inr (a0, 3)) (Int32.toNatClampNeg a2) : Int32))
  | (.inr (.inr (.inl (a0, a2, h)))) => (Sum.inr (h.2.1 (.inr (a0, 4)) (Int32.toNatClampNeg a2) : Int32))
  | (.inr (.inr (.inr (.inl (a0, a2, h))))) => (Sum.inr (h.2.1 (.inr (a0, 1)) (Int32.toNatClampNeg a2) : Int32))
  | (.inr (.inr (.inr (.inr (a0, a2, h))))) => (Sum.inr ((f65 (h.2.1 (.inr (a0, 7)) (Int32.toNatClampNeg a2)) (h.2.1 (.inr (a0, 8)) (Int32.toNatClampNeg a2))) : Int32))
noncomputable def g66_32 (a0 : Nat) (a2 : Int32) (h : mx_H) : Int32 := ml_wh b66 (.inl (a0, a2, h))
noncomputable def g66_39 (a0 : Nat) (a2 : Int32) (h : mx_H) : Int32 := ml_wh b66 (.inr (.inl (a0, a2, h)))
noncomputable def g66_46 (a0 : Nat) (a2 : Int32) (h : mx_H) : Int32 := ml_wh b66 (.inr (.inr (.inl (a0, a2, h))))
noncomputable def g66_53 (a0 : Nat) (a2 : Int32) (h : mx_H) : Int32 := ml_wh b66 (.inr (.inr (.inr (.inl (a0, a2, h)))))
noncomputable def g66_60 (a0 : Nat) (a2 : Int32) (h : mx_H) : Int32 := ml_wh b66 (.inr (.inr (.inr (.inr (a0, a2, h)))))
theorem g66_32_eq (a0 : Nat) (a2 : Int32) (h : mx_H) : g66_32 a0 a2 h = (h.2.1 (.inr (a0, 2)) (Int32.toNatClampNeg a2) : Int32) := by
  unfold g66_32
  rw [ml_wh_eq]
  simp only [b66, ml_go_ite, ml_go_l, ml_go_r, ml_go_opt, ml_go_let, ml_go_h, ml_go_val]
  try rfl
theorem g66_39_eq (a0 : Nat) (a2 : Int32) (h : mx_H) : g66_39 a0 a2 h = (h.2.1 (.inr (a0, 3)) (Int32.toNatClampNeg a2) : Int32) := by
  unfold g66_39
  rw [ml_wh_eq]
  simp only [b66, ml_go_ite, ml_go_l, ml_go_r, ml_go_opt, ml_go_let, ml_go_h, ml_go_val]
  try rfl
theorem g66_46_eq (a0 : Nat) (a2 : Int32) (h : mx_H) : g66_46 a0 a2 h = (h.2.1 (.inr (a0, 4)) (Int32.toNatClampNeg a2) : Int32) := by
  unfold g66_46
  rw [ml_wh_eq]
  simp only [b66, ml_go_ite, ml_go_l, ml_go_r, ml_go_opt, ml_go_let, ml_go_h, ml_go_val]
  try rfl
theorem g66_53_eq (a0 : Nat) (a2 : Int32) (h : mx_H) : g66_53 a0 a2 h = (h.2.1 (.inr (a0, 1)) (Int32.toNatClampNeg a2) : Int32) := by
  unfold g66_53
  rw [ml_wh_eq]
  simp only [b66, ml_go_ite, ml_go_l, ml_go_r, ml_go_opt, ml_go_let, ml_go_h, ml_go_val]
  try rfl
theorem g66_60_eq (a0 : Nat) (a2 : Int32) (h : mx_H) : g66_60 a0 a2 h = ((f65 (h.2.1 (.inr (a0, 7)) (Int32.toNatClampNeg a2)) (h.2.1 (.inr (a0, 8)) (Int32.toNatClampNeg a2))) : Int32) := by
  unfold g66_60
  rw [ml_wh_eq]
  simp only [b66, ml_go_ite, ml_go_l, ml_go_r, ml_go_opt, ml_go_let, ml_go_h, ml_go_val]
  try rfl
noncomputable def f66 (t0 : Nat) (a1 : Int32) (a2 : Int32) (h : mx_H) : Int32 := x_box (if a1 = 0 then (g66_32 t0 a2 h) else (if a1 = 1 then (g66_39 t0 a2 h) else (if a1 = 2 then (g66_46 t0 a2 h) else (if a1 = 3 then (g66_53 t0 a2 h) else (g66_60 t0 a2 h)))))
theorem f66_eq (t0 : Nat) (a1 : Int32) (a2 : Int32) (h : mx_H) : f66 t0 a1 a2 h = (if a1 = 0 then (g66_32 t0 a2 h) else (if a1 = 1 then (g66_39 t0 a2 h) else (if a1 = 2 then (g66_46 t0 a2 h) else (if a1 = 3 then (g66_53 t0 a2 h) else (g66_60 t0 a2 h))))) := x_box_eq _
theorem xw66 {E : mx_Ev} {Q : Option mx_V → mx_H → Prop} : ∀ n : Nat, (∀ (a0 : Nat) (a2 : Int32) (h : mx_H), (xK_ip Q h) (g66_32 a0 a2 h) → mx_L E n 66 32 [(0, .inr (.inr (a0, 0))), (2, .inl (.int a2))] [] h Q) ∧ (∀ (a0 : Nat) (a2 : Int32) (h : mx_H), (xK_ip Q h) (g66_39 a0 a2 h) → mx_L E n 66 39 [(0, .inr (.inr (a0, 0))), (2, .inl (.int a2))] [] h Q) ∧ (∀ (a0 : Nat) (a2 : Int32) (h : mx_H), (xK_ip Q h) (g66_46 a0 a2 h) → mx_L E n 66 46 [(0, .inr (.inr (a0, 0))), (2, .inl (.int a2))] [] h Q) ∧ (∀ (a0 : Nat) (a2 : Int32) (h : mx_H), (xK_ip Q h) (g66_53 a0 a2 h) → mx_L E n 66 53 [(0, .inr (.inr (a0, 0))), (2, .inl (.int a2))] [] h Q) ∧ (∀ (a0 : Nat) (a2 : Int32) (h : mx_H), (xK_ip Q h) (g66_60 a0 a2 h) → mx_L E n 66 60 [(0, .inr (.inr (a0, 0))), (2, .inl (.int a2))] [] h Q)
  | 0 => ⟨fun _ _ _ _ => mx_L.zero, fun _ _ _ _ => mx_L.zero, fun _ _ _ _ => mx_L.zero, fun _ _ _ _ => mx_L.zero, fun _ _ _ _ => mx_L.zero⟩
  | n + 1 => ⟨fun a0 a2 h hK => sl66_32 (x_use (x_eq (K := (xK_ip Q h)) (g66_32_eq a0 a2 h) hK) (fun hK => (fun _ => hK))), fun a0 a2 h hK => sl66_39 (x_use (x_eq (K := (xK_ip Q h)) (g66_39_eq a0 a2 h) hK) (fun hK => (fun _ => hK))), fun a0 a2 h hK => sl66_46 (x_use (x_eq (K := (xK_ip Q h)) (g66_46_eq a0 a2 h) hK) (fun hK => (fun _ => hK))), fun a0 a2 h hK => sl66_53 (x_use (x_eq (K := (xK_ip Q h)) (g66_53_eq a0 a2 h) hK) (fun hK => (fun _ => hK))), fun a0 a2 h hK => sl66_60 (x_use (x_eq (K := (xK_ip Q h)) (g66_60_eq a0 a2 h) hK) (fun hK => (fun _ => (fun _ => (x65 (xh_i hK))))))⟩
theorem x66 {E : mx_Ev} {n : Nat} {h : mx_H} {Q : Option mx_V → mx_H → Prop} {t0 : Nat} {a1 : Int32} {a2 : Int32} (hK : (xK_ip Q h) (f66 t0 a1 a2 h)) : mx_M E n 66 [.inr (.inr (t0, 0)), .inl (.int a1), .inl (.int a2)] h Q := by
  cases n with
  | zero => exact mx_L.zero
  | succ n => exact sl66_0 (x_use (x_eq (K := (xK_ip Q h)) (f66_eq t0 a1 a2 h) hK) (fun hK => (fun tgt q => by
          rcases q with ⟨q, e⟩ | ⟨q1, q2, o, qo, e⟩
          · have e2 : tgt = 60 := by omega
            subst e2
            replace hK := x_neg (fun e => by rw [e] at q; revert q; decide) hK
            replace hK := x_neg (fun e => by rw [e] at q; revert q; decide) hK
            replace hK := x_neg (fun e => by rw [e] at q; revert q; decide) hK
            replace hK := x_neg (fun e => by rw [e] at q; revert q; decide) hK
            exact mx_L.sub (lv' := mx_nrm [0, 2] [(0, .inr (.inr (t0, 0))), (1, .inl (.int a1)), (2, .inl (.int a2))]) mx_nrm_mem ((xw66 n).2.2.2.2 _ _ _ hK)
          · have hv : Int32.toInt a1 = 0 ∨ Int32.toInt a1 = 1 ∨ Int32.toInt a1 = 2 ∨ Int32.toInt a1 = 3 := by omega
            rcases hv with hv | hv | hv | hv
            · rw [hv] at qo
              have eo : o = 31 := (Option.some.inj (qo.symm.trans (rfl : _ = some (31 : Int))))
              have e2 : tgt = 32 := by omega
              subst e2
              replace hK := x_pos (Int32.toInt_inj.mp (hv.trans rfl)) hK
              exact mx_L.sub (lv' := mx_nrm [0, 2] [(0, .inr (.inr (t0, 0))), (1, .inl (.int a1)), (2, .inl (.int a2))]) mx_nrm_mem ((xw66 n).1 _ _ _ hK)
            · rw [hv] at qo
              have eo : o = 38 := (Option.some.inj (qo.symm.trans (rfl : _ = some (38 : Int))))
              have e2 : tgt = 39 := by omega
              subst e2
              replace hK := x_neg (fun e => by rw [e] at hv; revert hv; decide) hK
              replace hK := x_pos (Int32.toInt_inj.mp (hv.trans rfl)) hK
              exact mx_L.sub (lv' := mx_nrm [0, 2] [(0, .inr (.inr (t0, 0))), (1, .inl (.int a1)), (2, .inl (.int a2))]) mx_nrm_mem ((xw66 n).2.1 _ _ _ hK)
            · rw [hv] at qo
              have eo : o = 45 := (Option.some.inj (qo.symm.trans (rfl : _ = some (45 : Int))))
              have e2 : tgt = 46 := by omega
              subst e2
              replace hK := x_neg (fun e => by rw [e] at hv; revert hv; decide) hK
              replace hK := x_neg (fun e => by rw [e] at hv; revert hv; decide) hK
              replace hK := x_pos (Int32.toInt_inj.mp (hv.trans rfl)) hK
              exact mx_L.sub (lv' := mx_nrm [0, 2] [(0, .inr (.inr (t0, 0))), (1, .inl (.int a1)), (2, .inl (.int a2))]) mx_nrm_mem ((xw66 n).2.2.1 _ _ _ hK)
            · rw [hv] at qo
              have eo : o = 52 := (Option.some.inj (qo.symm.trans (rfl : _ = some (52 : Int))))
              have e2 : tgt = 53 := by omega
              subst e2
              replace hK := x_neg (fun e => by rw [e] at hv; revert hv; decide) hK
              replace hK := x_neg (fun e => by rw [e] at hv; revert hv; decide) hK
              replace hK := x_neg (fun e => by rw [e] at hv; revert hv; decide) hK
              replace hK := x_pos (Int32.toInt_inj.mp (hv.trans rfl)) hK
              exact mx_L.sub (lv' := mx_nrm [0, 2] [(0, .inr (.inr (t0, 0))), (1, .inl (.int a1)), (2, .inl (.int a2))]) mx_nrm_mem ((xw66 n).2.2.2.1 _ _ _ hK))))
noncomputable def b68 : ((Nat × Int32 × Int32 × mx_H) ⊕ (Nat × Int32 × Int32 × mx_H)) → ((Nat × Int32 × Int32 × mx_H) ⊕ (Nat × Int32 × Int32 × mx_H)) ⊕ (Int32)
  | (.inl (a0, a2, a3, h)) => (if (h.2.1 (.inr (a0, 0)) 0) ≤ a3 then (Sum.inl (.inr (a0, a2, 0, h))) else (Sum.inl (.inl (a0, ((((((((a2 * 31) + (h.2.1 (.inr (a0, 1)) (Int32.toNatClampNeg a3))) * 31) + (h.2.1 (.inr (a0, 2)) (Int32.toNatClampNeg a3))) * 31) + (h.2.1 (.inr (a0, 3)) (Int32.toNatClampNeg a3))) * 31) + (h.2.1 (.inr (a0, 4)) (Int32.toNatClampNeg a3))), (a3 + 1), h))))
  | (.inr (a0, a2, a3, h)) => (if (h.2.1 (.inr (a0, 0)) 6) ≤ a3 then (Sum.inr (a2 : Int32)) else (Sum.inl (.inr (a0, ((((((((a2 * 31) + (h.2.1 (.inr (a0, 5)) (Int32.toNatClampNeg a3))) * 31) + (h.2.1 (.inr (a0, 6)) (Int32.toNatClampNeg a3))) * 31) + (h.2.1 (.inr (a0, 7)) (Int32.toNatClampNeg a3))) * 31) + (h.2.1 (.inr (a0, 8)) (Int32.toNatClampNeg a3))), (a3 + 1), h))))
noncomputable def g68_4 (a0 : Nat) (a2 : Int32) (a3 : Int32) (h : mx_H) : Int32 := ml_wh b68 (.inl (a0, a2, a3, h))
noncomputable def g68_62 (a0 : Nat) (a2 : Int32) (a3 : Int32) (h : mx_H) : Int32 := ml_wh b68 (.inr (a0, a2, a3, h))
theorem g68_4_eq (a0 : Nat) (a2 : Int32) (a3 : Int32) (h : mx_H) : g68_4 a0 a2 a3 h = (if (h.2.1 (.inr (a0, 0)) 0) ≤ a3 then (g68_62 a0 a2 0 h) else (g68_4 a0 ((((((((a2 * 31) + (h.2.1 (.inr (a0, 1)) (Int32.toNatClampNeg a3))) * 31) + (h.2.1 (.inr (a0, 2)) (Int32.toNatClampNeg a3))) * 31) + (h.2.1 (.inr (a0, 3)) (Int32.toNatClampNeg a3))) * 31) + (h.2.1 (.inr (a0, 4)) (Int32.toNatClampNeg a3))) (a3 + 1) h)) := by
  unfold g68_4
  rw [ml_wh_eq]
  simp only [b68, ml_go_ite, ml_go_l, ml_go_r, ml_go_opt, ml_go_let, ml_go_h, ml_go_val]
  try rfl
theorem g68_62_eq (a0 : Nat) (a2 : Int32) (a3 : Int32) (h : mx_H) : g68_62 a0 a2 a3 h = (if (h.2.1 (.inr (a0, 0)) 6) ≤ a3 then (a2 : Int32) else (g68_62 a0 ((((((((a2 * 31) + (h.2.1 (.inr (a0, 5)) (Int32.toNatClampNeg a3))) * 31) + (h.2.1 (.inr (a0, 6)) (Int32.toNatClampNeg a3))) * 31) + (h.2.1 (.inr (a0, 7)) (Int32.toNatClampNeg a3))) * 31) + (h.2.1 (.inr (a0, 8)) (Int32.toNatClampNeg a3))) (a3 + 1) h)) := by
  unfold g68_62
  rw [ml_wh_eq]
  simp only [b68, ml_go_ite, ml_go_l, ml_go_r, ml_go_opt, ml_go_let, ml_go_h, ml_go_val]
  try rfl
noncomputable def f68 (t0 : Nat) (a1 : Int32) (h : mx_H) : Int32 := x_box (g68_4 t0 a1 0 h)
theorem f68_eq (t0 : Nat) (a1 : Int32) (h : mx_H) : f68 t0 a1 h = (g68_4 t0 a1 0 h) := x_box_eq _
theorem xw68 {E : mx_Ev} {Q : Option mx_V → mx_H → Prop} : ∀ n : Nat, (∀ (a0 : Nat) (a2 : Int32) (a3 : Int32) (h : mx_H), (xK_ip Q h) (g68_4 a0 a2 a3 h) → mx_L E n 68 4 [(0, .inr (.inr (a0, 0))), (2, .inl (.int a2)), (3, .inl (.int a3))] [] h Q) ∧ (∀ (a0 : Nat) (a2 : Int32) (a3 : Int32) (h : mx_H), (xK_ip Q h) (g68_62 a0 a2 a3 h) → mx_L E n 68 62 [(0, .inr (.inr (a0, 0))), (2, .inl (.int a2)), (3, .inl (.int a3))] [] h Q)
  | 0 => ⟨fun _ _ _ _ _ => mx_L.zero, fun _ _ _ _ _ => mx_L.zero⟩
  | n + 1 => ⟨fun a0 a2 a3 h hK => sl68_4 (x_use (x_eq (K := (xK_ip Q h)) (g68_4_eq a0 a2 a3 h) hK) (fun hK => (x_ite hK (fun hK => ((xw68 n).2 _ _ _ _ hK)) (fun hK => (fun _ => (fun _ => (fun _ => (fun _ => ((xw68 n).1 _ _ _ _ hK))))))))), fun a0 a2 a3 h hK => sl68_62 (x_use (x_eq (K := (xK_ip Q h)) (g68_62_eq a0 a2 a3 h) hK) (fun hK => (x_ite hK (fun hK => hK) (fun hK => (fun _ => (fun _ => (fun _ => (fun _ => ((xw68 n).2 _ _ _ _ hK)))))))))⟩
theorem x68 {E : mx_Ev} {n : Nat} {h : mx_H} {Q : Option mx_V → mx_H → Prop} {t0 : Nat} {a1 : Int32} (hK : (xK_ip Q h) (f68 t0 a1 h)) : mx_M E n 68 [.inr (.inr (t0, 0)), .inl (.int a1)] h Q := by
  cases n with
  | zero => exact mx_L.zero
  | succ n => exact sl68_0 (x_use (x_eq (K := (xK_ip Q h)) (f68_eq t0 a1 h) hK) (fun hK => ((xw68 n).1 _ _ _ _ hK)))
noncomputable def f70 (a1 : Int32) (a2 : Int32) (h : mx_H) : mx_H := x_box (if 0 ≤ a2 then (mx_uI (mx_uI (mx_uI h (.inl 95) (Int32.toNatClampNeg a1) (-1)) (.inl 97) (Int32.toNatClampNeg a1) (if a2 < 0 then 0 else a2)) (.inl 96) (Int32.toNatClampNeg a1) 0) else (mx_uI (mx_uI (mx_uI h (.inl 95) (Int32.toNatClampNeg a1) (-2)) (.inl 97) (Int32.toNatClampNeg a1) (if a2 < 0 then 0 else a2)) (.inl 96) (Int32.toNatClampNeg a1) 0))
theorem f70_eq (a1 : Int32) (a2 : Int32) (h : mx_H) : f70 a1 a2 h = (if 0 ≤ a2 then (mx_uI (mx_uI (mx_uI h (.inl 95) (Int32.toNatClampNeg a1) (-1)) (.inl 97) (Int32.toNatClampNeg a1) (if a2 < 0 then 0 else a2)) (.inl 96) (Int32.toNatClampNeg a1) 0) else (mx_uI (mx_uI (mx_uI h (.inl 95) (Int32.toNatClampNeg a1) (-2)) (.inl 97) (Int32.toNatClampNeg a1) (if a2 < 0 then 0 else a2)) (.inl 96) (Int32.toNatClampNeg a1) 0)) := x_box_eq _
theorem x70 {E : mx_Ev} {n : Nat} {h : mx_H} {Q : Option mx_V → mx_H → Prop} {a1 : Int32} {a2 : Int32} (hK : (xK_v Q) (f70 a1 a2 h)) : mx_M E n 70 [.inr (.inl 94), .inl (.int a1), .inl (.int a2)] h Q := by
  cases n with
  | zero => exact mx_L.zero
  | succ n => exact sl70_0 (x_use (x_eq (K := (xK_v Q)) (f70_eq a1 a2 h) hK) (fun hK => (x_ite hK (fun hK => (fun _ => (fun _ => (fun _ => hK)))) (fun hK => (fun _ => (fun _ => (fun _ => hK)))))))
noncomputable def b316 : ((mx_A × Int64 × Int32 × Int32 × mx_H)) → ((mx_A × Int64 × Int32 × Int32 × mx_H)) ⊕ (mx_H)
  | (a0, a1, a3, a4, h) => (if a4 ≤ a3 then (Sum.inr h) else (Sum.inl (a0, a1, (a3 + 1), a4, mx_uL h a0 (Int32.toNatClampNeg a3) a1)))
noncomputable def g316_6 (a0 : mx_A) (a1 : Int64) (a3 : Int32) (a4 : Int32) (h : mx_H) : mx_H := ml_wh b316 (a0, a1, a3, a4, h)
theorem g316_6_eq (a0 : mx_A) (a1 : Int64) (a3 : Int32) (a4 : Int32) (h : mx_H) : g316_6 a0 a1 a3 a4 h = (if a4 ≤ a3 then h else (g316_6 a0 a1 (a3 + 1) a4 (mx_uL h a0 (Int32.toNatClampNeg a3) a1))) := by
  unfold g316_6
  rw [ml_wh_eq]
  simp only [b316, ml_go_ite, ml_go_l, ml_go_r, ml_go_opt, ml_go_let, ml_go_h, ml_go_val]
  try rfl
noncomputable def f316 (a0 : mx_A) (a1 : Int64) (h : mx_H) : mx_H := x_box (g316_6 a0 a1 0 (Int32.ofNat (mx_lo a0).2) h)
theorem f316_eq (a0 : mx_A) (a1 : Int64) (h : mx_H) : f316 a0 a1 h = (g316_6 a0 a1 0 (Int32.ofNat (mx_lo a0).2) h) := x_box_eq _
theorem xw316 {E : mx_Ev} {Q : Option mx_V → mx_H → Prop} : ∀ n : Nat, (∀ (a0 : mx_A) (a1 : Int64) (a3 : Int32) (a4 : Int32) (h : mx_H), (xK_v Q) (g316_6 a0 a1 a3 a4 h) → mx_L E n 316 6 [(0, .inr a0), (1, .inl (.long a1)), (3, .inl (.int a3)), (4, .inl (.int a4))] [] h Q)
  | 0 => fun _ _ _ _ _ _ => mx_L.zero
  | n + 1 => fun a0 a1 a3 a4 h hK => sl316_6 (x_use (x_eq (K := (xK_v Q)) (g316_6_eq a0 a1 a3 a4 h) hK) (fun hK => (x_ite hK (fun hK => hK) (fun hK => (x_mli (fun _ => ((xw316 n) _ _ _ _ _ hK)))))))
theorem x316 {E : mx_Ev} {n : Nat} {h : mx_H} {Q : Option mx_V → mx_H → Prop} {a0 : mx_A} {a1 : Int64} (hK : (xK_v Q) (f316 a0 a1 h)) : mx_M E n 316 [.inr a0, .inl (.long a1)] h Q := by
  cases n with
  | zero => exact mx_L.zero
  | succ n => exact sl316_0 (x_use (x_eq (K := (xK_v Q)) (f316_eq a0 a1 h) hK) (fun hK => ((xw316 n) _ _ _ _ _ hK)))
noncomputable def f71 (a1 : Int32) (a2 : Int32) (a3 : Int32) (h : mx_H) : mx_H := x_box (x_h (f316 (.inr ((Int32.toNatClampNeg a1), 20)) 0 (mx_uI (mx_uI h (.inl 95) (Int32.toNatClampNeg a1) a2) (.inl 96) (Int32.toNatClampNeg a1) a3)) (fun h2 => h2))
theorem f71_eq (a1 : Int32) (a2 : Int32) (a3 : Int32) (h : mx_H) : f71 a1 a2 a3 h = (x_h (f316 (.inr ((Int32.toNatClampNeg a1), 20)) 0 (mx_uI (mx_uI h (.inl 95) (Int32.toNatClampNeg a1) a2) (.inl 96) (Int32.toNatClampNeg a1) a3)) (fun h2 => h2)) := x_box_eq _
theorem x71 {E : mx_Ev} {n : Nat} {h : mx_H} {Q : Option mx_V → mx_H → Prop} {a1 : Int32} {a2 : Int32} {a3 : Int32} (hK : (xK_v Q) (f71 a1 a2 a3 h)) : mx_M E n 71 [.inr (.inl 94), .inl (.int a1), .inl (.int a2), .inl (.int a3)] h Q := by
  cases n with
  | zero => exact mx_L.zero
  | succ n => exact sl71_0 (x_use (x_eq (K := (xK_v Q)) (f71_eq a1 a2 a3 h) hK) (fun hK => (fun _ => (fun _ => (fun _ => (x316 (xh_n (x_hk hK (fun hK => hK)))))))))
noncomputable def f72 (a1 : Int32) (h : mx_H) : Int32 := x_box (if (h.2.1 (.inl 95) (Int32.toNatClampNeg a1)) ≠ (-2) then (if (h.2.1 (.inl 95) (Int32.toNatClampNeg a1)) ≠ (-1) then (0 : Int32) else ((-12) : Int32)) else ((-11) : Int32))
theorem f72_eq (a1 : Int32) (h : mx_H) : f72 a1 h = (if (h.2.1 (.inl 95) (Int32.toNatClampNeg a1)) ≠ (-2) then (if (h.2.1 (.inl 95) (Int32.toNatClampNeg a1)) ≠ (-1) then (0 : Int32) else ((-12) : Int32)) else ((-11) : Int32)) := x_box_eq _
theorem x72 {E : mx_Ev} {n : Nat} {h : mx_H} {Q : Option mx_V → mx_H → Prop} {a1 : Int32} (hK : (xK_ip Q h) (f72 a1 h)) : mx_M E n 72 [.inr (.inl 94), .inl (.int a1)] h Q := by
  cases n with
  | zero => exact mx_L.zero
  | succ n => exact sl72_0 (x_use (x_eq (K := (xK_ip Q h)) (f72_eq a1 h) hK) (fun hK => (fun _ => (x_ite hK (fun hK => (fun _ => (x_ite hK (fun hK => hK) (fun hK => hK)))) (fun hK => hK)))))
noncomputable def f73 (a1 : Int32) (h : mx_H) : Int32 := x_box (if (h.2.1 (.inl 95) (Int32.toNatClampNeg a1)) ≠ (-2) then (if (f157 (h.2.1 (.inl 95) (Int32.toNatClampNeg a1)) 0 2) = 0 then ((-12) : Int32) else (0 : Int32)) else ((-11) : Int32))
theorem f73_eq (a1 : Int32) (h : mx_H) : f73 a1 h = (if (h.2.1 (.inl 95) (Int32.toNatClampNeg a1)) ≠ (-2) then (if (f157 (h.2.1 (.inl 95) (Int32.toNatClampNeg a1)) 0 2) = 0 then ((-12) : Int32) else (0 : Int32)) else ((-11) : Int32)) := x_box_eq _
theorem x73 {E : mx_Ev} {n : Nat} {h : mx_H} {Q : Option mx_V → mx_H → Prop} {a1 : Int32} (hK : (xK_ip Q h) (f73 a1 h)) : mx_M E n 73 [.inr (.inl 94), .inl (.int a1)] h Q := by
  cases n with
  | zero => exact mx_L.zero
  | succ n => exact sl73_0 (x_use (x_eq (K := (xK_ip Q h)) (f73_eq a1 h) hK) (fun hK => (fun _ => (x_ite hK (fun hK => (fun _ => (x157 (xh_i (x_ite hK (fun hK => hK) (fun hK => hK)))))) (fun hK => hK)))))
noncomputable def f74 (a1 : Int32) (a2 : Int32) (h : mx_H) : Int32 := x_box (if a2 < 0 then (0 : Int32) else (if (h.2.1 (.inl 96) (Int32.toNatClampNeg a1)) ≤ a2 then (0 : Int32) else (1 : Int32)))
theorem f74_eq (a1 : Int32) (a2 : Int32) (h : mx_H) : f74 a1 a2 h = (if a2 < 0 then (0 : Int32) else (if (h.2.1 (.inl 96) (Int32.toNatClampNeg a1)) ≤ a2 then (0 : Int32) else (1 : Int32))) := x_box_eq _
theorem x74 {E : mx_Ev} {n : Nat} {h : mx_H} {Q : Option mx_V → mx_H → Prop} {a1 : Int32} {a2 : Int32} (hK : (xK_ip Q h) (f74 a1 a2 h)) : mx_M E n 74 [.inr (.inl 94), .inl (.int a1), .inl (.int a2)] h Q := by
  cases n with
  | zero => exact mx_L.zero
  | succ n => exact sl74_0 (x_use (x_eq (K := (xK_ip Q h)) (f74_eq a1 a2 h) hK) (fun hK => (x_ite hK (fun hK => (fun _ => hK)) (fun hK => (fun _ => (x_ite hK (fun hK => (fun _ => hK)) (fun hK => (fun _ => hK))))))))
noncomputable def f75 (a1 : Int32) (a2 : Int32) (a3 : Int32) (h : mx_H) : Int32 := x_box (if a2 < 0 then (0 : Int32) else (if a3 < 0 then (0 : Int32) else (if (h.2.1 (.inl 96) (Int32.toNatClampNeg a1)) < a3 then (0 : Int32) else (if ((h.2.1 (.inl 96) (Int32.toNatClampNeg a1)) - a3) < a2 then (0 : Int32) else (1 : Int32)))))
theorem f75_eq (a1 : Int32) (a2 : Int32) (a3 : Int32) (h : mx_H) : f75 a1 a2 a3 h = (if a2 < 0 then (0 : Int32) else (if a3 < 0 then (0 : Int32) else (if (h.2.1 (.inl 96) (Int32.toNatClampNeg a1)) < a3 then (0 : Int32) else (if ((h.2.1 (.inl 96) (Int32.toNatClampNeg a1)) - a3) < a2 then (0 : Int32) else (1 : Int32))))) := x_box_eq _
theorem x75 {E : mx_Ev} {n : Nat} {h : mx_H} {Q : Option mx_V → mx_H → Prop} {a1 : Int32} {a2 : Int32} {a3 : Int32} (hK : (xK_ip Q h) (f75 a1 a2 a3 h)) : mx_M E n 75 [.inr (.inl 94), .inl (.int a1), .inl (.int a2), .inl (.int a3)] h Q := by
  cases n with
  | zero => exact mx_L.zero
  | succ n => exact sl75_0 (x_use (x_eq (K := (xK_ip Q h)) (f75_eq a1 a2 a3 h) hK) (fun hK => (x_ite hK (fun hK => (fun _ => hK)) (fun hK => (x_ite hK (fun hK => (fun _ => hK)) (fun hK => (fun _ => (x_ite hK (fun hK => (fun _ => hK)) (fun hK => (fun _ => (x_ite hK (fun hK => (fun _ => hK)) (fun hK => (fun _ => hK)))))))))))))
noncomputable def b77 : ((Int64) ⊕ (Int64) ⊕ (Int64) ⊕ (Int64) ⊕ (Int64)) → ((Int64) ⊕ (Int64) ⊕ (Int64) ⊕ (Int64) ⊕ (Int64)) ⊕ (Int64)
  | (.inl a1) => (Sum.inr (Int32.toInt64 ((Int32.toInt8 (Int64.toInt32 a1)).toInt32) : Int64))
  | (.inr (.inl a1)) => (Sum.inr (Int32.toInt64 ((Int32.toInt16 (Int64.toInt32 a1)).toInt32) : Int64))
  | (.inr (.inr (.inl a1))) => (Sum.inr (Int32.toInt64 (Int64.toInt32 a1) : Int64))
  | (.inr (.inr (.inr (.inl a1)))) => (Sum.inr (a1 : Int64))
  | (.inr (.inr (.inr (.inr a1)))) => (if (lg_cmp a1 0) = 0 then (Sum.inr (0 : Int64)) else (Sum.inr (1 : Int64)))
noncomputable def g77_32 (a1 : Int64) : Int64 := ml_wh b77 (.inl a1)
noncomputable def g77_37 (a1 : Int64) : Int64 := ml_wh b77 (.inr (.inl a1))
noncomputable def g77_42 (a1 : Int64) : Int64 := ml_wh b77 (.inr (.inr (.inl a1)))
noncomputable def g77_46 (a1 : Int64) : Int64 := ml_wh b77 (.inr (.inr (.inr (.inl a1))))
noncomputable def g77_48 (a1 : Int64) : Int64 := ml_wh b77 (.inr (.inr (.inr (.inr a1))))
theorem g77_32_eq (a1 : Int64) : g77_32 a1 = (Int32.toInt64 ((Int32.toInt8 (Int64.toInt32 a1)).toInt32) : Int64) := by
  unfold g77_32
  rw [ml_wh_eq]
  simp only [b77, ml_go_ite, ml_go_l, ml_go_r, ml_go_opt, ml_go_let, ml_go_h, ml_go_val]
  try rfl
theorem g77_37_eq (a1 : Int64) : g77_37 a1 = (Int32.toInt64 ((Int32.toInt16 (Int64.toInt32 a1)).toInt32) : Int64) := by
  unfold g77_37
  rw [ml_wh_eq]
  simp only [b77, ml_go_ite, ml_go_l, ml_go_r, ml_go_opt, ml_go_let, ml_go_h, ml_go_val]
  try rfl
theorem g77_42_eq (a1 : Int64) : g77_42 a1 = (Int32.toInt64 (Int64.toInt32 a1) : Int64) := by
  unfold g77_42
  rw [ml_wh_eq]
  simp only [b77, ml_go_ite, ml_go_l, ml_go_r, ml_go_opt, ml_go_let, ml_go_h, ml_go_val]
  try rfl
theorem g77_46_eq (a1 : Int64) : g77_46 a1 = (a1 : Int64) := by
  unfold g77_46
  rw [ml_wh_eq]
  simp only [b77, ml_go_ite, ml_go_l, ml_go_r, ml_go_opt, ml_go_let, ml_go_h, ml_go_val]
  try rfl
theorem g77_48_eq (a1 : Int64) : g77_48 a1 = (if (lg_cmp a1 0) = 0 then (0 : Int64) else (1 : Int64)) := by
  unfold g77_48
  rw [ml_wh_eq]
  simp only [b77, ml_go_ite, ml_go_l, ml_go_r, ml_go_opt, ml_go_let, ml_go_h, ml_go_val]
  try rfl
noncomputable def f77 (a0 : Int32) (a1 : Int64) : Int64 := x_box (if a0 = 0 then (g77_32 a1) else (if a0 = 1 then (g77_37 a1) else (if a0 = 2 then (g77_42 a1) else (if a0 = 3 then (g77_46 a1) else (g77_48 a1)))))
theorem f77_eq (a0 : Int32) (a1 : Int64) : f77 a0 a1 = (if a0 = 0 then (g77_32 a1) else (if a0 = 1 then (g77_37 a1) else (if a0 = 2 then (g77_42 a1) else (if a0 = 3 then (g77_46 a1) else (g77_48 a1))))) := x_box_eq _
theorem xw77 {E : mx_Ev} {Q : Option mx_V → mx_H → Prop} : ∀ n : Nat, (∀ (a1 : Int64) (h : mx_H), (xK_lp Q h) (g77_32 a1) → mx_L E n 77 32 [(1, .inl (.long a1))] [] h Q) ∧ (∀ (a1 : Int64) (h : mx_H), (xK_lp Q h) (g77_37 a1) → mx_L E n 77 37 [(1, .inl (.long a1))] [] h Q) ∧ (∀ (a1 : Int64) (h : mx_H), (xK_lp Q h) (g77_42 a1) → mx_L E n 77 42 [(1, .inl (.long a1))] [] h Q) ∧ (∀ (a1 : Int64) (h : mx_H), (xK_lp Q h) (g77_46 a1) → mx_L E n 77 46 [(1, .inl (.long a1))] [] h Q) ∧ (∀ (a1 : Int64) (h : mx_H), (xK_lp Q h) (g77_48 a1) → mx_L E n 77 48 [(1, .inl (.long a1))] [] h Q)
  | 0 => ⟨fun _ _ _ => mx_L.zero, fun _ _ _ => mx_L.zero, fun _ _ _ => mx_L.zero, fun _ _ _ => mx_L.zero, fun _ _ _ => mx_L.zero⟩
  | n + 1 => ⟨fun a1 h hK => sl77_32 (x_use (x_eq (K := (xK_lp Q h)) (g77_32_eq a1) hK) (fun hK => hK)), fun a1 h hK => sl77_37 (x_use (x_eq (K := (xK_lp Q h)) (g77_37_eq a1) hK) (fun hK => hK)), fun a1 h hK => sl77_42 (x_use (x_eq (K := (xK_lp Q h)) (g77_42_eq a1) hK) (fun hK => hK)), fun a1 h hK => sl77_46 (x_use (x_eq (K := (xK_lp Q h)) (g77_46_eq a1) hK) (fun hK => hK)), fun a1 h hK => sl77_48 (x_use (x_eq (K := (xK_lp Q h)) (g77_48_eq a1) hK) (fun hK => (x_ite hK (fun hK => hK) (fun hK => hK))))⟩
theorem x77 {E : mx_Ev} {n : Nat} {h : mx_H} {Q : Option mx_V → mx_H → Prop} {a0 : Int32} {a1 : Int64} (hK : (xK_lp Q h) (f77 a0 a1)) : mx_M E n 77 [.inl (.int a0), .inl (.long a1)] h Q := by
  cases n with
  | zero => exact mx_L.zero
  | succ n => exact sl77_0 (x_use (x_eq (K := (xK_lp Q h)) (f77_eq a0 a1) hK) (fun hK => (fun tgt q => by
          rcases q with ⟨q, e⟩ | ⟨q1, q2, o, qo, e⟩
          · have e2 : tgt = 48 := by omega
            subst e2
            replace hK := x_neg (fun e => by rw [e] at q; revert q; decide) hK
            replace hK := x_neg (fun e => by rw [e] at q; revert q; decide) hK
            replace hK := x_neg (fun e => by rw [e] at q; revert q; decide) hK
            replace hK := x_neg (fun e => by rw [e] at q; revert q; decide) hK
            exact mx_L.sub (lv' := mx_nrm [1] [(0, .inl (.int a0)), (1, .inl (.long a1))]) mx_nrm_mem ((xw77 n).2.2.2.2 _ _ hK)
          · have hv : Int32.toInt a0 = 0 ∨ Int32.toInt a0 = 1 ∨ Int32.toInt a0 = 2 ∨ Int32.toInt a0 = 3 := by omega
            rcases hv with hv | hv | hv | hv
            · rw [hv] at qo
              have eo : o = 31 := (Option.some.inj (qo.symm.trans (rfl : _ = some (31 : Int))))
              have e2 : tgt = 32 := by omega
              subst e2
              replace hK := x_pos (Int32.toInt_inj.mp (hv.trans rfl)) hK
              exact mx_L.sub (lv' := mx_nrm [1] [(0, .inl (.int a0)), (1, .inl (.long a1))]) mx_nrm_mem ((xw77 n).1 _ _ hK)
            · rw [hv] at qo
              have eo : o = 36 := (Option.some.inj (qo.symm.trans (rfl : _ = some (36 : Int))))
              have e2 : tgt = 37 := by omega
              subst e2
              replace hK := x_neg (fun e => by rw [e] at hv; revert hv; decide) hK
              replace hK := x_pos (Int32.toInt_inj.mp (hv.trans rfl)) hK
              exact mx_L.sub (lv' := mx_nrm [1] [(0, .inl (.int a0)), (1, .inl (.long a1))]) mx_nrm_mem ((xw77 n).2.1 _ _ hK)
            · rw [hv] at qo
              have eo : o = 41 := (Option.some.inj (qo.symm.trans (rfl : _ = some (41 : Int))))
              have e2 : tgt = 42 := by omega
              subst e2
              replace hK := x_neg (fun e => by rw [e] at hv; revert hv; decide) hK
              replace hK := x_neg (fun e => by rw [e] at hv; revert hv; decide) hK
              replace hK := x_pos (Int32.toInt_inj.mp (hv.trans rfl)) hK
              exact mx_L.sub (lv' := mx_nrm [1] [(0, .inl (.int a0)), (1, .inl (.long a1))]) mx_nrm_mem ((xw77 n).2.2.1 _ _ hK)
            · rw [hv] at qo
              have eo : o = 45 := (Option.some.inj (qo.symm.trans (rfl : _ = some (45 : Int))))
              have e2 : tgt = 46 := by omega
              subst e2
              replace hK := x_neg (fun e => by rw [e] at hv; revert hv; decide) hK
              replace hK := x_neg (fun e => by rw [e] at hv; revert hv; decide) hK
              replace hK := x_neg (fun e => by rw [e] at hv; revert hv; decide) hK
              replace hK := x_pos (Int32.toInt_inj.mp (hv.trans rfl)) hK
              exact mx_L.sub (lv' := mx_nrm [1] [(0, .inl (.int a0)), (1, .inl (.long a1))]) mx_nrm_mem ((xw77 n).2.2.2.1 _ _ hK))))
noncomputable def f76 (a1 : Int32) (a2 : Int32) (a3 : Int64) (h : mx_H) : mx_H := x_box (mx_uL h (.inr ((Int32.toNatClampNeg a1), 20)) (Int32.toNatClampNeg a2) (f77 (h.2.1 (.inl 95) (Int32.toNatClampNeg a1)) a3))
theorem f76_eq (a1 : Int32) (a2 : Int32) (a3 : Int64) (h : mx_H) : f76 a1 a2 a3 h = (mx_uL h (.inr ((Int32.toNatClampNeg a1), 20)) (Int32.toNatClampNeg a2) (f77 (h.2.1 (.inl 95) (Int32.toNatClampNeg a1)) a3)) := x_box_eq _
theorem x76 {E : mx_Ev} {n : Nat} {h : mx_H} {Q : Option mx_V → mx_H → Prop} {a1 : Int32} {a2 : Int32} {a3 : Int64} (hK : (xK_v Q) (f76 a1 a2 a3 h)) : mx_M E n 76 [.inr (.inl 94), .inl (.int a1), .inl (.int a2), .inl (.long a3)] h Q := by
  cases n with
  | zero => exact mx_L.zero
  | succ n => exact sl76_0 (x_use (x_eq (K := (xK_v Q)) (f76_eq a1 a2 a3 h) hK) (fun hK => (fun _ => (fun _ => (x77 (xh_l (fun _ => hK)))))))
noncomputable def f78 (a0 : Int32) : Int64 := x_box (if a0 ≠ 0 then (if a0 ≠ 1 then (2147483647 : Int64) else (32767 : Int64)) else (127 : Int64))
theorem f78_eq (a0 : Int32) : f78 a0 = (if a0 ≠ 0 then (if a0 ≠ 1 then (2147483647 : Int64) else (32767 : Int64)) else (127 : Int64)) := x_box_eq _
theorem x78 {E : mx_Ev} {n : Nat} {h : mx_H} {Q : Option mx_V → mx_H → Prop} {a0 : Int32} (hK : (xK_lp Q h) (f78 a0)) : mx_M E n 78 [.inl (.int a0)] h Q := by
  cases n with
  | zero => exact mx_L.zero
  | succ n => exact sl78_0 (x_use (x_eq (K := (xK_lp Q h)) (f78_eq a0) hK) (fun hK => (x_ite hK (fun hK => (x_ite hK (fun hK => hK) (fun hK => hK))) (fun hK => hK))))
noncomputable def f79 (a1 : Int32) (a2 : Int32) (a3 : Int32) (h : mx_H) : mx_H := x_box (x_val (f78 (h.2.1 (.inl 95) (Int32.toNatClampNeg a1))) (fun x3 => (mx_uL h (.inr ((Int32.toNatClampNeg a1), 20)) (Int32.toNatClampNeg a2) (if (if (Int32.toInt64 a3) < x3 then (Int32.toInt64 a3) else x3) < (-x3) then (-x3) else (if (Int32.toInt64 a3) < x3 then (Int32.toInt64 a3) else x3)))))
theorem f79_eq (a1 : Int32) (a2 : Int32) (a3 : Int32) (h : mx_H) : f79 a1 a2 a3 h = (x_val (f78 (h.2.1 (.inl 95) (Int32.toNatClampNeg a1))) (fun x3 => (mx_uL h (.inr ((Int32.toNatClampNeg a1), 20)) (Int32.toNatClampNeg a2) (if (if (Int32.toInt64 a3) < x3 then (Int32.toInt64 a3) else x3) < (-x3) then (-x3) else (if (Int32.toInt64 a3) < x3 then (Int32.toInt64 a3) else x3))))) := x_box_eq _
theorem x79 {E : mx_Ev} {n : Nat} {h : mx_H} {Q : Option mx_V → mx_H → Prop} {a1 : Int32} {a2 : Int32} {a3 : Int32} (hK : (xK_v Q) (f79 a1 a2 a3 h)) : mx_M E n 79 [.inr (.inl 94), .inl (.int a1), .inl (.int a2), .inl (.int a3)] h Q := by
  cases n with
  | zero => exact mx_L.zero
  | succ n => exact sl79_0 (x_use (x_eq (K := (xK_v Q)) (f79_eq a1 a2 a3 h) hK) (fun hK => (fun _ => (x78 (xh_l (x_valk hK (fun hK => (fun _ => (fun _ => hK)))))))))
noncomputable def f80 (a1 : Int32) (a2 : Int32) (h : mx_H) : Int64 := x_box (if 0 ≤ (lg_cmp (h.2.2.1 (.inr ((Int32.toNatClampNeg a1), 20)) (Int32.toNatClampNeg a2)) (-(f78 (h.2.1 (.inl 95) (Int32.toNatClampNeg a1))))) then (h.2.2.1 (.inr ((Int32.toNatClampNeg a1), 20)) (Int32.toNatClampNeg a2) : Int64) else (0 : Int64))
theorem f80_eq (a1 : Int32) (a2 : Int32) (h : mx_H) : f80 a1 a2 h = (if 0 ≤ (lg_cmp (h.2.2.1 (.inr ((Int32.toNatClampNeg a1), 20)) (Int32.toNatClampNeg a2)) (-(f78 (h.2.1 (.inl 95) (Int32.toNatClampNeg a1))))) then (h.2.2.1 (.inr ((Int32.toNatClampNeg a1), 20)) (Int32.toNatClampNeg a2) : Int64) else (0 : Int64)) := x_box_eq _
theorem x80 {E : mx_Ev} {n : Nat} {h : mx_H} {Q : Option mx_V → mx_H → Prop} {a1 : Int32} {a2 : Int32} (hK : (xK_lp Q h) (f80 a1 a2 h)) : mx_M E n 80 [.inr (.inl 94), .inl (.int a1), .inl (.int a2)] h Q := by
  cases n with
  | zero => exact mx_L.zero
  | succ n => exact sl80_0 (x_use (x_eq (K := (xK_lp Q h)) (f80_eq a1 a2 h) hK) (fun hK => (fun _ => (fun _ => (fun _ => (x78 (xh_l (x_ite hK (fun hK => hK) (fun hK => hK)))))))))
noncomputable def f308 (a0 : Int32) (a1 : Int32) : Int32 := x_box (if a1 ≤ a0 then (if a0 ≠ a1 then (1 : Int32) else (0 : Int32)) else ((-1) : Int32))
theorem f308_eq (a0 : Int32) (a1 : Int32) : f308 a0 a1 = (if a1 ≤ a0 then (if a0 ≠ a1 then (1 : Int32) else (0 : Int32)) else ((-1) : Int32)) := x_box_eq _
theorem x308 {E : mx_Ev} {n : Nat} {h : mx_H} {Q : Option mx_V → mx_H → Prop} {a0 : Int32} {a1 : Int32} (hK : (xK_ip Q h) (f308 a0 a1)) : mx_M E n 308 [.inl (.int a0), .inl (.int a1)] h Q := by
  cases n with
  | zero => exact mx_L.zero
  | succ n => exact sl308_0 (x_use (x_eq (K := (xK_ip Q h)) (f308_eq a0 a1) hK) (fun hK => (x_ite hK (fun hK => (x_ite hK (fun hK => hK) (fun hK => hK))) (fun hK => hK))))
noncomputable def f82 (a0 : Int32) (a1 : Int32) : Int32 := x_box ((f308 a1 (2 * (a0 - a0 / a1 * a1))) : Int32)
theorem f82_eq (a0 : Int32) (a1 : Int32) : f82 a0 a1 = ((f308 a1 (2 * (a0 - a0 / a1 * a1))) : Int32) := x_box_eq _
theorem x82 {E : mx_Ev} {n : Nat} {h : mx_H} {Q : Option mx_V → mx_H → Prop} {a0 : Int32} {a1 : Int32} (hK : (xK_ip Q h) (f82 a0 a1)) : mx_M E n 82 [.inl (.int a0), .inl (.int a1)] h Q := by
  cases n with
  | zero => exact mx_L.zero
  | succ n => exact sl82_0 (x_use (x_eq (K := (xK_ip Q h)) (f82_eq a0 a1) hK) (fun hK => (fun _ => (x308 (xh_i hK)))))
noncomputable def b81 : ((Int32 × Int32 × Int64 × Int64 × Int32 × mx_H)) → ((Int32 × Int32 × Int64 × Int64 × Int32 × mx_H)) ⊕ (Int64)
  | (a1, a2, a3, a5, a7, h) => (if (h.2.1 (.inl 96) (Int32.toNatClampNeg a1)) ≤ a7 then (Sum.inr ((if (if 0 < a5 then a5 else -a5) < (if 0 < a3 then a3 else -a3) then (if 0 < a3 then a3 else -a3) else (if 0 < a5 then a5 else -a5)) + ((if (if 0 < a5 then a5 else -a5) < (if 0 < a3 then a3 else -a3) then (if 0 < a5 then a5 else -a5) else (if 0 < a3 then a3 else -a3)) / 2) : Int64)) else (Sum.inl (a1, a2, (a3 + ((f80 a1 a7 h) * (Int32.toInt64 (f82 a7 a2)))), (a5 + ((f80 a1 a7 h) * (Int32.toInt64 (f82 (a7 + (a2 / 4)) a2)))), (a7 + 1), h)))
noncomputable def g81_8 (a1 : Int32) (a2 : Int32) (a3 : Int64) (a5 : Int64) (a7 : Int32) (h : mx_H) : Int64 := ml_wh b81 (a1, a2, a3, a5, a7, h)
theorem g81_8_eq (a1 : Int32) (a2 : Int32) (a3 : Int64) (a5 : Int64) (a7 : Int32) (h : mx_H) : g81_8 a1 a2 a3 a5 a7 h = (if (h.2.1 (.inl 96) (Int32.toNatClampNeg a1)) ≤ a7 then ((if (if 0 < a5 then a5 else -a5) < (if 0 < a3 then a3 else -a3) then (if 0 < a3 then a3 else -a3) else (if 0 < a5 then a5 else -a5)) + ((if (if 0 < a5 then a5 else -a5) < (if 0 < a3 then a3 else -a3) then (if 0 < a5 then a5 else -a5) else (if 0 < a3 then a3 else -a3)) / 2) : Int64) else (g81_8 a1 a2 (a3 + ((f80 a1 a7 h) * (Int32.toInt64 (f82 a7 a2)))) (a5 + ((f80 a1 a7 h) * (Int32.toInt64 (f82 (a7 + (a2 / 4)) a2)))) (a7 + 1) h)) := by
  unfold g81_8
  rw [ml_wh_eq]
  simp only [b81, ml_go_ite, ml_go_l, ml_go_r, ml_go_opt, ml_go_let, ml_go_h, ml_go_val]
  try rfl
noncomputable def f81 (a1 : Int32) (a2 : Int32) (h : mx_H) : Int64 := x_box (g81_8 a1 a2 0 0 0 h)
theorem f81_eq (a1 : Int32) (a2 : Int32) (h : mx_H) : f81 a1 a2 h = (g81_8 a1 a2 0 0 0 h) := x_box_eq _
theorem xw81 {E : mx_Ev} {Q : Option mx_V → mx_H → Prop} : ∀ n : Nat, (∀ (a1 : Int32) (a2 : Int32) (a3 : Int64) (a5 : Int64) (a7 : Int32) (h : mx_H), (xK_lp Q h) (g81_8 a1 a2 a3 a5 a7 h) → mx_L E n 81 8 [(0, .inr (.inl 94)), (1, .inl (.int a1)), (2, .inl (.int a2)), (3, .inl (.long a3)), (5, .inl (.long a5)), (7, .inl (.int a7))] [] h Q)
  | 0 => fun _ _ _ _ _ _ _ => mx_L.zero
  | n + 1 => fun a1 a2 a3 a5 a7 h hK => sl81_8 (x_use (x_eq (K := (xK_lp Q h)) (g81_8_eq a1 a2 a3 a5 a7 h) hK) (fun hK => (fun _ => (x_ite hK (fun hK => (fun _ => hK)) (fun hK => (x80 (xh_l (x82 (xh_i (x80 (xh_l (fun _ => (x82 (xh_i ((xw81 n) _ _ _ _ _ _ hK)))))))))))))))
theorem x81 {E : mx_Ev} {n : Nat} {h : mx_H} {Q : Option mx_V → mx_H → Prop} {a1 : Int32} {a2 : Int32} (hK : (xK_lp Q h) (f81 a1 a2 h)) : mx_M E n 81 [.inr (.inl 94), .inl (.int a1), .inl (.int a2)] h Q := by
  cases n with
  | zero => exact mx_L.zero
  | succ n => exact sl81_0 (x_use (x_eq (K := (xK_lp Q h)) (f81_eq a1 a2 h) hK) (fun hK => ((xw81 n) _ _ _ _ _ _ hK)))
noncomputable def b83 : ((Int32 × Int32 × Int64 × Int32 × mx_H)) → ((Int32 × Int32 × Int64 × Int32 × mx_H)) ⊕ (Int32)
  | (a1, a2, a3, a5, h) => (if 60 < a5 then (Sum.inr (a2 : Int32)) else (x_val (f81 a1 a5 h) (fun x3 => (if (lg_cmp (x3 / (Int32.toInt64 (if 1 < (h.2.1 (.inl 96) (Int32.toNatClampNeg a1)) then (h.2.1 (.inl 96) (Int32.toNatClampNeg a1)) else 1))) a3) ≤ 0 then (Sum.inl (a1, a2, a3, (a5 + 1), h)) else (Sum.inl (a1, a5, (x3 / (Int32.toInt64 (if 1 < (h.2.1 (.inl 96) (Int32.toNatClampNeg a1)) then (h.2.1 (.inl 96) (Int32.toNatClampNeg a1)) else 1))), (a5 + 1), h))))))
noncomputable def g83_9 (a1 : Int32) (a2 : Int32) (a3 : Int64) (a5 : Int32) (h : mx_H) : Int32 := ml_wh b83 (a1, a2, a3, a5, h)
theorem g83_9_eq (a1 : Int32) (a2 : Int32) (a3 : Int64) (a5 : Int32) (h : mx_H) : g83_9 a1 a2 a3 a5 h = (if 60 < a5 then (a2 : Int32) else (x_val (f81 a1 a5 h) (fun x3 => (if (lg_cmp (x3 / (Int32.toInt64 (if 1 < (h.2.1 (.inl 96) (Int32.toNatClampNeg a1)) then (h.2.1 (.inl 96) (Int32.toNatClampNeg a1)) else 1))) a3) ≤ 0 then (g83_9 a1 a2 a3 (a5 + 1) h) else (g83_9 a1 a5 (x3 / (Int32.toInt64 (if 1 < (h.2.1 (.inl 96) (Int32.toNatClampNeg a1)) then (h.2.1 (.inl 96) (Int32.toNatClampNeg a1)) else 1))) (a5 + 1) h))))) := by
  unfold g83_9
  rw [ml_wh_eq]
  simp only [b83, ml_go_ite, ml_go_l, ml_go_r, ml_go_opt, ml_go_let, ml_go_h, ml_go_val]
  try rfl
noncomputable def f83 (a1 : Int32) (h : mx_H) : Int32 := x_box (g83_9 a1 2 (-1) 2 h)
theorem f83_eq (a1 : Int32) (h : mx_H) : f83 a1 h = (g83_9 a1 2 (-1) 2 h) := x_box_eq _
theorem xw83 {E : mx_Ev} {Q : Option mx_V → mx_H → Prop} : ∀ n : Nat, (∀ (a1 : Int32) (a2 : Int32) (a3 : Int64) (a5 : Int32) (h : mx_H), (xK_ip Q h) (g83_9 a1 a2 a3 a5 h) → mx_L E n 83 9 [(0, .inr (.inl 94)), (1, .inl (.int a1)), (2, .inl (.int a2)), (3, .inl (.long a3)), (5, .inl (.int a5))] [] h Q)
  | 0 => fun _ _ _ _ _ _ => mx_L.zero
  | n + 1 => fun a1 a2 a3 a5 h hK => sl83_9 (x_use (x_eq (K := (xK_ip Q h)) (g83_9_eq a1 a2 a3 a5 h) hK) (fun hK => (x_ite hK (fun hK => hK) (fun hK => (x81 (xh_l (x_valk hK (fun hK => (fun _ => (fun _ => (x_ite hK (fun hK => ((xw83 n) _ _ _ _ _ hK)) (fun hK => ((xw83 n) _ _ _ _ _ hK)))))))))))))
theorem x83 {E : mx_Ev} {n : Nat} {h : mx_H} {Q : Option mx_V → mx_H → Prop} {a1 : Int32} (hK : (xK_ip Q h) (f83 a1 h)) : mx_M E n 83 [.inr (.inl 94), .inl (.int a1)] h Q := by
  cases n with
  | zero => exact mx_L.zero
  | succ n => exact sl83_0 (x_use (x_eq (K := (xK_ip Q h)) (f83_eq a1 h) hK) (fun hK => ((xw83 n) _ _ _ _ _ hK)))
noncomputable def b85 : ((Int32 × Int32 × Int32 × mx_H)) → ((Int32 × Int32 × Int32 × mx_H)) ⊕ (mx_H)
  | (a1, a2, a3, h) => (if a1 ≤ a3 then (Sum.inr h) else (if 120 ≤ (h.2.1 (.inl 1) 1) then (Sum.inr h) else (Sum.inl (a1, a2, (a3 + 1), mx_uI (mx_uI h (.inl 2) (Int32.toNatClampNeg (h.2.1 (.inl 1) 1)) (((a2.toUInt32 >>> (Int32.toUInt32 (8 * a3) &&& Int32.toUInt32 31)).toInt32) &&& 255)) (.inl 1) 1 (((mx_uI h (.inl 2) (Int32.toNatClampNeg (h.2.1 (.inl 1) 1)) (((a2.toUInt32 >>> (Int32.toUInt32 (8 * a3) &&& Int32.toUInt32 31)).toInt32) &&& 255)).2.1 (.inl 1) 1) + 1)))))
noncomputable def g85_2 (a1 : Int32) (a2 : Int32) (a3 : Int32) (h : mx_H) : mx_H := ml_wh b85 (a1, a2, a3, h)
theorem g85_2_eq (a1 : Int32) (a2 : Int32) (a3 : Int32) (h : mx_H) : g85_2 a1 a2 a3 h = (if a1 ≤ a3 then h else (if 120 ≤ (h.2.1 (.inl 1) 1) then h else (g85_2 a1 a2 (a3 + 1) (mx_uI (mx_uI h (.inl 2) (Int32.toNatClampNeg (h.2.1 (.inl 1) 1)) (((a2.toUInt32 >>> (Int32.toUInt32 (8 * a3) &&& Int32.toUInt32 31)).toInt32) &&& 255)) (.inl 1) 1 (((mx_uI h (.inl 2) (Int32.toNatClampNeg (h.2.1 (.inl 1) 1)) (((a2.toUInt32 >>> (Int32.toUInt32 (8 * a3) &&& Int32.toUInt32 31)).toInt32) &&& 255)).2.1 (.inl 1) 1) + 1))))) := by
  unfold g85_2
  rw [ml_wh_eq]
  simp only [b85, ml_go_ite, ml_go_l, ml_go_r, ml_go_opt, ml_go_let, ml_go_h, ml_go_val]
  try rfl
noncomputable def f85 (a1 : Int32) (a2 : Int32) (h : mx_H) : mx_H := x_box (g85_2 a1 a2 0 h)
theorem f85_eq (a1 : Int32) (a2 : Int32) (h : mx_H) : f85 a1 a2 h = (g85_2 a1 a2 0 h) := x_box_eq _
theorem xw85 {E : mx_Ev} {Q : Option mx_V → mx_H → Prop} : ∀ n : Nat, (∀ (a1 : Int32) (a2 : Int32) (a3 : Int32) (h : mx_H), (xK_v Q) (g85_2 a1 a2 a3 h) → mx_L E n 85 2 [(0, .inr (.inl 1)), (1, .inl (.int a1)), (2, .inl (.int a2)), (3, .inl (.int a3))] [] h Q)
  | 0 => fun _ _ _ _ _ => mx_L.zero
  | n + 1 => fun a1 a2 a3 h hK => sl85_2 (x_use (x_eq (K := (xK_v Q)) (g85_2_eq a1 a2 a3 h) hK) (fun hK => (x_ite hK (fun hK => hK) (fun hK => (x_ite hK (fun hK => hK) (fun hK => (fun _ => ((xw85 n) _ _ _ _ hK))))))))
theorem x85 {E : mx_Ev} {n : Nat} {h : mx_H} {Q : Option mx_V → mx_H → Prop} {a1 : Int32} {a2 : Int32} (hK : (xK_v Q) (f85 a1 a2 h)) : mx_M E n 85 [.inr (.inl 1), .inl (.int a1), .inl (.int a2)] h Q := by
  cases n with
  | zero => exact mx_L.zero
  | succ n => exact sl85_0 (x_use (x_eq (K := (xK_v Q)) (f85_eq a1 a2 h) hK) (fun hK => ((xw85 n) _ _ _ _ hK)))
noncomputable def f92  (h : mx_H) : Int32 := x_box (if (h.2.1 (.inl 1) 1) ≤ (h.2.1 (.inl 1) 2) then ((-1) : Int32) else (if 120 ≤ (h.2.1 (.inl 1) 2) then ((-1) : Int32) else (h.2.1 (.inl 2) (Int32.toNatClampNeg (h.2.1 (.inl 1) 2)) : Int32)))
theorem f92_eq  (h : mx_H) : f92  h = (if (h.2.1 (.inl 1) 1) ≤ (h.2.1 (.inl 1) 2) then ((-1) : Int32) else (if 120 ≤ (h.2.1 (.inl 1) 2) then ((-1) : Int32) else (h.2.1 (.inl 2) (Int32.toNatClampNeg (h.2.1 (.inl 1) 2)) : Int32))) := x_box_eq _
theorem x92 {E : mx_Ev} {n : Nat} {h : mx_H} {Q : Option mx_V → mx_H → Prop} (hK : (xK_ip Q h) (f92  h)) : mx_M E n 92 [.inr (.inl 1)] h Q := by
  cases n with
  | zero => exact mx_L.zero
  | succ n => exact sl92_0 (x_use (x_eq (K := (xK_ip Q h)) (f92_eq  h) hK) (fun hK => (x_ite hK (fun hK => hK) (fun hK => (x_ite hK (fun hK => hK) (fun hK => (fun _ => hK)))))))
noncomputable def f93  (h : mx_H) : Int32 := x_box (x_val (f92 h) (fun x3 => (if (f157 x3 49 57) = 0 then (0 : Int32) else (x3 - 48 : Int32))))
theorem f93_eq  (h : mx_H) : f93  h = (x_val (f92 h) (fun x3 => (if (f157 x3 49 57) = 0 then (0 : Int32) else (x3 - 48 : Int32)))) := x_box_eq _
theorem x93 {E : mx_Ev} {n : Nat} {h : mx_H} {Q : Option mx_V → mx_H → Prop} (hK : (xK_ip Q h) (f93  h)) : mx_M E n 93 [.inr (.inl 1)] h Q := by
  cases n with
  | zero => exact mx_L.zero
  | succ n => exact sl93_0 (x_use (x_eq (K := (xK_ip Q h)) (f93_eq  h) hK) (fun hK => (x92 (xh_i (x_valk hK (fun hK => (x157 (xh_i (x_ite hK (fun hK => hK) (fun hK => hK))))))))))
noncomputable def b87 : ((Nat × Int32 × mx_H)) → ((Nat × Int32 × mx_H)) ⊕ (Int32 × mx_H)
  | (a1, a2, h) => (if 6 ≤ a2 then (if (h.2.1 (.inr (a1, 0)) 0) ≤ 0 then (Sum.inr ((0 : Int32), h)) else (Sum.inr ((1 : Int32), h))) else (if (f93 h) ≤ 0 then (if (h.2.1 (.inr (a1, 0)) 0) ≤ 0 then (Sum.inr ((0 : Int32), h)) else (Sum.inr ((1 : Int32), h))) else (x_val (f93 h) (fun x6 => (Sum.inl (a1, (a2 + 1), mx_uI (mx_uI (mx_uI h (.inr (a1, 1)) (Int32.toNatClampNeg a2) x6) (.inr (a1, 0)) 0 (a2 + 1)) (.inl 1) 2 (((mx_uI (mx_uI h (.inr (a1, 1)) (Int32.toNatClampNeg a2) x6) (.inr (a1, 0)) 0 (a2 + 1)).2.1 (.inl 1) 2) + 1)))))))
noncomputable def g87_23 (a1 : Nat) (a2 : Int32) (h : mx_H) : Int32 × mx_H := ml_wh b87 (a1, a2, h)
theorem g87_23_eq (a1 : Nat) (a2 : Int32) (h : mx_H) : g87_23 a1 a2 h = (if 6 ≤ a2 then (if (h.2.1 (.inr (a1, 0)) 0) ≤ 0 then ((0 : Int32), h) else ((1 : Int32), h)) else (if (f93 h) ≤ 0 then (if (h.2.1 (.inr (a1, 0)) 0) ≤ 0 then ((0 : Int32), h) else ((1 : Int32), h)) else (x_val (f93 h) (fun x6 => (g87_23 a1 (a2 + 1) (mx_uI (mx_uI (mx_uI h (.inr (a1, 1)) (Int32.toNatClampNeg a2) x6) (.inr (a1, 0)) 0 (a2 + 1)) (.inl 1) 2 (((mx_uI (mx_uI h (.inr (a1, 1)) (Int32.toNatClampNeg a2) x6) (.inr (a1, 0)) 0 (a2 + 1)).2.1 (.inl 1) 2) + 1))))))) := by
  unfold g87_23
  rw [ml_wh_eq]
  simp only [b87, ml_go_ite, ml_go_l, ml_go_r, ml_go_opt, ml_go_let, ml_go_h, ml_go_val]
  try rfl
noncomputable def f87 (a1 : Nat) (h : mx_H) : Int32 × mx_H := x_box (if (f92 h) = 99 then (g87_23 a1 0 (mx_uI h (.inl 1) 2 ((h.2.1 (.inl 1) 2) + 1))) else ((0 : Int32), h))
theorem f87_eq (a1 : Nat) (h : mx_H) : f87 a1 h = (if (f92 h) = 99 then (g87_23 a1 0 (mx_uI h (.inl 1) 2 ((h.2.1 (.inl 1) 2) + 1))) else ((0 : Int32), h)) := x_box_eq _
theorem xw87 {E : mx_Ev} {Q : Option mx_V → mx_H → Prop} : ∀ n : Nat, (∀ (a1 : Nat) (a2 : Int32) (h : mx_H), (xK_i Q) (g87_23 a1 a2 h) → mx_L E n 87 23 [(0, .inr (.inl 1)), (1, .inr (.inr (a1, 0))), (2, .inl (.int a2))] [] h Q)
  | 0 => fun _ _ _ _ => mx_L.zero
  | n + 1 => fun a1 a2 h hK => sl87_23 (x_use (x_eq (K := (xK_i Q)) (g87_23_eq a1 a2 h) hK) (fun hK => (x_ite hK (fun hK => (x_ite hK (fun hK => (fun _ => hK)) (fun hK => (fun _ => hK)))) (fun hK => (x93 (xh_i (x_ite hK (fun hK => (x_ite hK (fun hK => (fun _ => hK)) (fun hK => (fun _ => hK)))) (fun hK => (x93 (xh_i (x_valk hK (fun hK => (fun _ => ((xw87 n) _ _ _ hK))))))))))))))
theorem x87 {E : mx_Ev} {n : Nat} {h : mx_H} {Q : Option mx_V → mx_H → Prop} {a1 : Nat} (hK : (xK_i Q) (f87 a1 h)) : mx_M E n 87 [.inr (.inl 1), .inr (.inr (a1, 0))] h Q := by
  cases n with
  | zero => exact mx_L.zero
  | succ n => exact sl87_0 (x_use (x_eq (K := (xK_i Q)) (f87_eq a1 h) hK) (fun hK => (x92 (xh_i (x_ite hK (fun hK => ((xw87 n) _ _ _ hK)) (fun hK => (fun _ => hK)))))))
noncomputable def f94 (a1 : Nat) (h : mx_H) : Int32 := x_box (x_val (f92 h) (fun x3 => (if (f157 (x3 - 97) 0 ((h.2.1 (.inr (a1, 0)) 0) - 1)) = 0 then ((-1) : Int32) else (x3 - 97 : Int32))))
theorem f94_eq (a1 : Nat) (h : mx_H) : f94 a1 h = (x_val (f92 h) (fun x3 => (if (f157 (x3 - 97) 0 ((h.2.1 (.inr (a1, 0)) 0) - 1)) = 0 then ((-1) : Int32) else (x3 - 97 : Int32)))) := x_box_eq _
theorem x94 {E : mx_Ev} {n : Nat} {h : mx_H} {Q : Option mx_V → mx_H → Prop} {a1 : Nat} (hK : (xK_ip Q h) (f94 a1 h)) : mx_M E n 94 [.inr (.inl 1), .inr (.inr (a1, 0))] h Q := by
  cases n with
  | zero => exact mx_L.zero
  | succ n => exact sl94_0 (x_use (x_eq (K := (xK_ip Q h)) (f94_eq a1 h) hK) (fun hK => (x92 (xh_i (x_valk hK (fun hK => (x157 (xh_i (x_ite hK (fun hK => hK) (fun hK => hK))))))))))
noncomputable def f89 (a1 : Nat) (h : mx_H) : Int32 × mx_H := x_box (x_val (f94 a1 h) (fun x3 => (if 0 ≤ x3 then (x_val (f94 a1 (mx_uI h (.inl 1) 2 ((h.2.1 (.inl 1) 2) + 1))) (fun x6 => (if x6 < 0 then ((0 : Int32), (mx_uI h (.inl 1) 2 ((h.2.1 (.inl 1) 2) + 1))) else (if x6 = x3 then ((0 : Int32), (mx_uI h (.inl 1) 2 ((h.2.1 (.inl 1) 2) + 1))) else (if (f61 a1 x3 x6 (mx_uI h (.inl 1) 2 ((h.2.1 (.inl 1) 2) + 1))) < 0 then (if (f93 (mx_uI (mx_uI h (.inl 1) 2 ((h.2.1 (.inl 1) 2) + 1)) (.inl 1) 2 (((mx_uI h (.inl 1) 2 ((h.2.1 (.inl 1) 2) + 1)).2.1 (.inl 1) 2) + 1))) ≠ 0 then (x_h (f63 a1 x3 x6 (f93 (mx_uI (mx_uI h (.inl 1) 2 ((h.2.1 (.inl 1) 2) + 1)) (.inl 1) 2 (((mx_uI h (.inl 1) 2 ((h.2.1 (.inl 1) 2) + 1)).2.1 (.inl 1) 2) + 1))) (mx_uI (mx_uI h (.inl 1) 2 ((h.2.1 (.inl 1) 2) + 1)) (.inl 1) 2 (((mx_uI h (.inl 1) 2 ((h.2.1 (.inl 1) 2) + 1)).2.1 (.inl 1) 2) + 1))) (fun h17 => ((1 : Int32), mx_uI h17 (.inl 1) 2 ((h17.2.1 (.inl 1) 2) + 1)))) else ((0 : Int32), (mx_uI (mx_uI h (.inl 1) 2 ((h.2.1 (.inl 1) 2) + 1)) (.inl 1) 2 (((mx_uI h (.inl 1) 2 ((h.2.1 (.inl 1) 2) + 1)).2.1 (.inl 1) 2) + 1)))) else ((0 : Int32), (mx_uI h (.inl 1) 2 ((h.2.1 (.inl 1) 2) + 1)))))))) else ((0 : Int32), h))))
theorem f89_eq (a1 : Nat) (h : mx_H) : f89 a1 h = (x_val (f94 a1 h) (fun x3 => (if 0 ≤ x3 then (x_val (f94 a1 (mx_uI h (.inl 1) 2 ((h.2.1 (.inl 1) 2) + 1))) (fun x6 => (if x6 < 0 then ((0 : Int32), (mx_uI h (.inl 1) 2 ((h.2.1 (.inl 1) 2) + 1))) else (if x6 = x3 then ((0 : Int32), (mx_uI h (.inl 1) 2 ((h.2.1 (.inl 1) 2) + 1))) else (if (f61 a1 x3 x6 (mx_uI h (.inl 1) 2 ((h.2.1 (.inl 1) 2) + 1))) < 0 then (if (f93 (mx_uI (mx_uI h (.inl 1) 2 ((h.2.1 (.inl 1) 2) + 1)) (.inl 1) 2 (((mx_uI h (.inl 1) 2 ((h.2.1 (.inl 1) 2) + 1)).2.1 (.inl 1) 2) + 1))) ≠ 0 then (x_h (f63 a1 x3 x6 (f93 (mx_uI (mx_uI h (.inl 1) 2 ((h.2.1 (.inl 1) 2) + 1)) (.inl 1) 2 (((mx_uI h (.inl 1) 2 ((h.2.1 (.inl 1) 2) + 1)).2.1 (.inl 1) 2) + 1))) (mx_uI (mx_uI h (.inl 1) 2 ((h.2.1 (.inl 1) 2) + 1)) (.inl 1) 2 (((mx_uI h (.inl 1) 2 ((h.2.1 (.inl 1) 2) + 1)).2.1 (.inl 1) 2) + 1))) (fun h17 => ((1 : Int32), mx_uI h17 (.inl 1) 2 ((h17.2.1 (.inl 1) 2) + 1)))) else ((0 : Int32), (mx_uI (mx_uI h (.inl 1) 2 ((h.2.1 (.inl 1) 2) + 1)) (.inl 1) 2 (((mx_uI h (.inl 1) 2 ((h.2.1 (.inl 1) 2) + 1)).2.1 (.inl 1) 2) + 1)))) else ((0 : Int32), (mx_uI h (.inl 1) 2 ((h.2.1 (.inl 1) 2) + 1)))))))) else ((0 : Int32), h)))) := x_box_eq _
theorem x89 {E : mx_Ev} {n : Nat} {h : mx_H} {Q : Option mx_V → mx_H → Prop} {a1 : Nat} (hK : (xK_i Q) (f89 a1 h)) : mx_M E n 89 [.inr (.inl 1), .inr (.inr (a1, 0))] h Q := by
  cases n with
  | zero => exact mx_L.zero
  | succ n => exact sl89_0 (x_use (x_eq (K := (xK_i Q)) (f89_eq a1 h) hK) (fun hK => (x94 (xh_i (x_valk hK (fun hK => (x_ite hK (fun hK => (x94 (xh_i (x_valk hK (fun hK => (x_ite hK (fun hK => (fun _ => hK)) (fun hK => (x_ite hK (fun hK => (fun _ => hK)) (fun hK => (x61 (xh_i (x_ite hK (fun hK => (x93 (xh_i (x_ite hK (fun hK => (x93 (xh_i (x63 (xh_n (x_hk hK (fun hK => (fun _ => hK)))))))) (fun hK => (fun _ => hK)))))) (fun hK => (fun _ => hK)))))))))))))) (fun hK => (fun _ => hK)))))))))
noncomputable def f90 (a1 : Nat) (h : mx_H) : Int32 × mx_H := x_box (x_val (f94 a1 h) (fun x3 => (if x3 < 0 then ((0 : Int32), h) else (if (h.2.1 (.inr (a1, 4)) (Int32.toNatClampNeg x3)) = 0 then ((1 : Int32), mx_uI (mx_uI h (.inl 1) 2 ((h.2.1 (.inl 1) 2) + 1)) (.inr (a1, 4)) (Int32.toNatClampNeg x3) 1) else ((0 : Int32), h)))))
theorem f90_eq (a1 : Nat) (h : mx_H) : f90 a1 h = (x_val (f94 a1 h) (fun x3 => (if x3 < 0 then ((0 : Int32), h) else (if (h.2.1 (.inr (a1, 4)) (Int32.toNatClampNeg x3)) = 0 then ((1 : Int32), mx_uI (mx_uI h (.inl 1) 2 ((h.2.1 (.inl 1) 2) + 1)) (.inr (a1, 4)) (Int32.toNatClampNeg x3) 1) else ((0 : Int32), h))))) := x_box_eq _
theorem x90 {E : mx_Ev} {n : Nat} {h : mx_H} {Q : Option mx_V → mx_H → Prop} {a1 : Nat} (hK : (xK_i Q) (f90 a1 h)) : mx_M E n 90 [.inr (.inl 1), .inr (.inr (a1, 0))] h Q := by
  cases n with
  | zero => exact mx_L.zero
  | succ n => exact sl90_0 (x_use (x_eq (K := (xK_i Q)) (f90_eq a1 h) hK) (fun hK => (x94 (xh_i (x_valk hK (fun hK => (x_ite hK (fun hK => (fun _ => hK)) (fun hK => (fun _ => (x_ite hK (fun hK => (fun _ => (fun _ => hK))) (fun hK => (fun _ => hK))))))))))))
noncomputable def f91 (a1 : Nat) (a2 : mx_A) (h : mx_H) : Int32 × mx_H := x_box (x_val (f94 a1 h) (fun x3 => (if x3 < 0 then ((0 : Int32), h) else (if (h.2.1 a2 (Int32.toNatClampNeg x3)) = 0 then (if (f93 (mx_uI h (.inl 1) 2 ((h.2.1 (.inl 1) 2) + 1))) ≠ 0 then (x_val (f93 (mx_uI h (.inl 1) 2 ((h.2.1 (.inl 1) 2) + 1))) (fun x9 => ((1 : Int32), mx_uI (mx_uI (mx_uI h (.inl 1) 2 ((h.2.1 (.inl 1) 2) + 1)) a2 (Int32.toNatClampNeg x3) x9) (.inl 1) 2 (((mx_uI (mx_uI h (.inl 1) 2 ((h.2.1 (.inl 1) 2) + 1)) a2 (Int32.toNatClampNeg x3) x9).2.1 (.inl 1) 2) + 1)))) else ((0 : Int32), (mx_uI h (.inl 1) 2 ((h.2.1 (.inl 1) 2) + 1)))) else ((0 : Int32), h)))))
theorem f91_eq (a1 : Nat) (a2 : mx_A) (h : mx_H) : f91 a1 a2 h = (x_val (f94 a1 h) (fun x3 => (if x3 < 0 then ((0 : Int32), h) else (if (h.2.1 a2 (Int32.toNatClampNeg x3)) = 0 then (if (f93 (mx_uI h (.inl 1) 2 ((h.2.1 (.inl 1) 2) + 1))) ≠ 0 then (x_val (f93 (mx_uI h (.inl 1) 2 ((h.2.1 (.inl 1) 2) + 1))) (fun x9 => ((1 : Int32), mx_uI (mx_uI (mx_uI h (.inl 1) 2 ((h.2.1 (.inl 1) 2) + 1)) a2 (Int32.toNatClampNeg x3) x9) (.inl 1) 2 (((mx_uI (mx_uI h (.inl 1) 2 ((h.2.1 (.inl 1) 2) + 1)) a2 (Int32.toNatClampNeg x3) x9).2.1 (.inl 1) 2) + 1)))) else ((0 : Int32), (mx_uI h (.inl 1) 2 ((h.2.1 (.inl 1) 2) + 1)))) else ((0 : Int32), h))))) := x_box_eq _
theorem x91 {E : mx_Ev} {n : Nat} {h : mx_H} {Q : Option mx_V → mx_H → Prop} {a1 : Nat} {a2 : mx_A} (hK : (xK_i Q) (f91 a1 a2 h)) : mx_M E n 91 [.inr (.inl 1), .inr (.inr (a1, 0)), .inr a2] h Q := by
  cases n with
  | zero => exact mx_L.zero
  | succ n => exact sl91_0 (x_use (x_eq (K := (xK_i Q)) (f91_eq a1 a2 h) hK) (fun hK => (x94 (xh_i (x_valk hK (fun hK => (x_ite hK (fun hK => (fun _ => hK)) (fun hK => (x_mli (fun _ => (x_ite hK (fun hK => (x93 (xh_i (x_ite hK (fun hK => (x93 (xh_i (x_valk hK (fun hK => (x_mli (fun _ => (fun _ => hK)))))))) (fun hK => (fun _ => hK)))))) (fun hK => (fun _ => hK)))))))))))))
noncomputable def b88 : ((Nat × Int32 × mx_H)) → ((Nat × Int32 × mx_H)) ⊕ (Int32 × mx_H)
  | (a1, a2, h) => (if a2 ≠ 112 then (if a2 ≠ 104 then (if a2 ≠ 115 then (x_let (f91 a1 (.inr (a1, 3)) (mx_uI h (.inl 1) 2 ((h.2.1 (.inl 1) 2) + 1))) (fun x3 h2 => (Sum.inr ((x3 : Int32), h2)))) else (x_let (f91 a1 (.inr (a1, 2)) (mx_uI h (.inl 1) 2 ((h.2.1 (.inl 1) 2) + 1))) (fun x6 h5 => (Sum.inr ((x6 : Int32), h5))))) else (x_let (f90 a1 (mx_uI h (.inl 1) 2 ((h.2.1 (.inl 1) 2) + 1))) (fun x9 h8 => (Sum.inr ((x9 : Int32), h8))))) else (x_let (f89 a1 (mx_uI h (.inl 1) 2 ((h.2.1 (.inl 1) 2) + 1))) (fun x12 h11 => (Sum.inr ((x12 : Int32), h11)))))
noncomputable def g88_52 (a1 : Nat) (a2 : Int32) (h : mx_H) : Int32 × mx_H := ml_wh b88 (a1, a2, h)
theorem g88_52_eq (a1 : Nat) (a2 : Int32) (h : mx_H) : g88_52 a1 a2 h = (if a2 ≠ 112 then (if a2 ≠ 104 then (if a2 ≠ 115 then (x_let (f91 a1 (.inr (a1, 3)) (mx_uI h (.inl 1) 2 ((h.2.1 (.inl 1) 2) + 1))) (fun x3 h2 => ((x3 : Int32), h2))) else (x_let (f91 a1 (.inr (a1, 2)) (mx_uI h (.inl 1) 2 ((h.2.1 (.inl 1) 2) + 1))) (fun x6 h5 => ((x6 : Int32), h5)))) else (x_let (f90 a1 (mx_uI h (.inl 1) 2 ((h.2.1 (.inl 1) 2) + 1))) (fun x9 h8 => ((x9 : Int32), h8)))) else (x_let (f89 a1 (mx_uI h (.inl 1) 2 ((h.2.1 (.inl 1) 2) + 1))) (fun x12 h11 => ((x12 : Int32), h11)))) := by
  unfold g88_52
  rw [ml_wh_eq]
  simp only [b88, ml_go_ite, ml_go_l, ml_go_r, ml_go_opt, ml_go_let, ml_go_h, ml_go_val]
  try rfl
noncomputable def f88 (a1 : Nat) (h : mx_H) : Int32 × mx_H := x_box (if (f92 h) = 59 then (x_val (f92 (mx_uI h (.inl 1) 2 ((h.2.1 (.inl 1) 2) + 1))) (fun x6 => (if x6 = 112 then (g88_52 a1 x6 (mx_uI h (.inl 1) 2 ((h.2.1 (.inl 1) 2) + 1))) else (if x6 = 115 then (g88_52 a1 x6 (mx_uI h (.inl 1) 2 ((h.2.1 (.inl 1) 2) + 1))) else (if x6 = 104 then (g88_52 a1 x6 (mx_uI h (.inl 1) 2 ((h.2.1 (.inl 1) 2) + 1))) else (if x6 = 119 then (g88_52 a1 x6 (mx_uI h (.inl 1) 2 ((h.2.1 (.inl 1) 2) + 1))) else ((0 : Int32), (mx_uI h (.inl 1) 2 ((h.2.1 (.inl 1) 2) + 1))))))))) else ((0 : Int32), h))
theorem f88_eq (a1 : Nat) (h : mx_H) : f88 a1 h = (if (f92 h) = 59 then (x_val (f92 (mx_uI h (.inl 1) 2 ((h.2.1 (.inl 1) 2) + 1))) (fun x6 => (if x6 = 112 then (g88_52 a1 x6 (mx_uI h (.inl 1) 2 ((h.2.1 (.inl 1) 2) + 1))) else (if x6 = 115 then (g88_52 a1 x6 (mx_uI h (.inl 1) 2 ((h.2.1 (.inl 1) 2) + 1))) else (if x6 = 104 then (g88_52 a1 x6 (mx_uI h (.inl 1) 2 ((h.2.1 (.inl 1) 2) + 1))) else (if x6 = 119 then (g88_52 a1 x6 (mx_uI h (.inl 1) 2 ((h.2.1 (.inl 1) 2) + 1))) else ((0 : Int32), (mx_uI h (.inl 1) 2 ((h.2.1 (.inl 1) 2) + 1))))))))) else ((0 : Int32), h)) := x_box_eq _
theorem xw88 {E : mx_Ev} {Q : Option mx_V → mx_H → Prop} : ∀ n : Nat, (∀ (a1 : Nat) (a2 : Int32) (h : mx_H), (xK_i Q) (g88_52 a1 a2 h) → mx_L E n 88 52 [(0, .inr (.inl 1)), (1, .inr (.inr (a1, 0))), (2, .inl (.int a2))] [] h Q)
  | 0 => fun _ _ _ _ => mx_L.zero
  | n + 1 => fun a1 a2 h hK => sl88_52 (x_use (x_eq (K := (xK_i Q)) (g88_52_eq a1 a2 h) hK) (fun hK => (x_ite hK (fun hK => (x_ite hK (fun hK => (x_ite hK (fun hK => (x91 (xh_i (x_letk hK (fun hK => (fun _ => hK)))))) (fun hK => (x91 (xh_i (x_letk hK (fun hK => (fun _ => hK)))))))) (fun hK => (x90 (xh_i (x_letk hK (fun hK => (fun _ => hK)))))))) (fun hK => (x89 (xh_i (x_letk hK (fun hK => (fun _ => hK)))))))))
theorem x88 {E : mx_Ev} {n : Nat} {h : mx_H} {Q : Option mx_V → mx_H → Prop} {a1 : Nat} (hK : (xK_i Q) (f88 a1 h)) : mx_M E n 88 [.inr (.inl 1), .inr (.inr (a1, 0))] h Q := by
  cases n with
  | zero => exact mx_L.zero
  | succ n => exact sl88_0 (x_use (x_eq (K := (xK_i Q)) (f88_eq a1 h) hK) (fun hK => (x92 (xh_i (x_ite hK (fun hK => (x92 (xh_i (x_valk hK (fun hK => (x_ite hK (fun hK => ((xw88 n) _ _ _ hK)) (fun hK => (x_ite hK (fun hK => ((xw88 n) _ _ _ hK)) (fun hK => (x_ite hK (fun hK => ((xw88 n) _ _ _ hK)) (fun hK => (x_ite hK (fun hK => ((xw88 n) _ _ _ hK)) (fun hK => (fun _ => hK)))))))))))))) (fun hK => (fun _ => hK)))))))
noncomputable def b86 : ((Nat × Int32 × Int32 × mx_H)) → ((Nat × Int32 × Int32 × mx_H)) ⊕ (Int32 × mx_H)
  | (a1, a2, a3, h) => (if a2 = 0 then (if a2 = 0 then (Sum.inr ((h.2.1 (.inl 1) 2 : Int32), h)) else (Sum.inr (((-1) : Int32), h))) else (if (h.2.1 (.inl 1) 1) ≤ (h.2.1 (.inl 1) 2) then (if a2 = 0 then (Sum.inr ((h.2.1 (.inl 1) 2 : Int32), h)) else (Sum.inr (((-1) : Int32), h))) else (if 120 ≤ a3 then (if a2 = 0 then (Sum.inr ((h.2.1 (.inl 1) 2 : Int32), h)) else (Sum.inr (((-1) : Int32), h))) else (x_let (f88 a1 h) (fun x3 h2 => (Sum.inl (a1, x3, (a3 + 1), h2)))))))
noncomputable def g86_17 (a1 : Nat) (a2 : Int32) (a3 : Int32) (h : mx_H) : Int32 × mx_H := ml_wh b86 (a1, a2, a3, h)
theorem g86_17_eq (a1 : Nat) (a2 : Int32) (a3 : Int32) (h : mx_H) : g86_17 a1 a2 a3 h = (if a2 = 0 then (if a2 = 0 then ((h.2.1 (.inl 1) 2 : Int32), h) else (((-1) : Int32), h)) else (if (h.2.1 (.inl 1) 1) ≤ (h.2.1 (.inl 1) 2) then (if a2 = 0 then ((h.2.1 (.inl 1) 2 : Int32), h) else (((-1) : Int32), h)) else (if 120 ≤ a3 then (if a2 = 0 then ((h.2.1 (.inl 1) 2 : Int32), h) else (((-1) : Int32), h)) else (x_let (f88 a1 h) (fun x3 h2 => (g86_17 a1 x3 (a3 + 1) h2)))))) := by
  unfold g86_17
  rw [ml_wh_eq]
  simp only [b86, ml_go_ite, ml_go_l, ml_go_r, ml_go_opt, ml_go_let, ml_go_h, ml_go_val]
  try rfl
noncomputable def f86 (a1 : Nat) (h : mx_H) : Int32 × mx_H := x_box (x_h (f59 a1 h) (fun h2 => (x_let (f87 a1 (mx_uI h2 (.inl 1) 2 0)) (fun x5 h4 => (g86_17 a1 x5 0 h4)))))
theorem f86_eq (a1 : Nat) (h : mx_H) : f86 a1 h = (x_h (f59 a1 h) (fun h2 => (x_let (f87 a1 (mx_uI h2 (.inl 1) 2 0)) (fun x5 h4 => (g86_17 a1 x5 0 h4))))) := x_box_eq _
theorem xw86 {E : mx_Ev} {Q : Option mx_V → mx_H → Prop} : ∀ n : Nat, (∀ (a1 : Nat) (a2 : Int32) (a3 : Int32) (h : mx_H), (xK_i Q) (g86_17 a1 a2 a3 h) → mx_L E n 86 17 [(0, .inr (.inl 1)), (1, .inr (.inr (a1, 0))), (2, .inl (.int a2)), (3, .inl (.int a3))] [] h Q)
  | 0 => fun _ _ _ _ _ => mx_L.zero
  | n + 1 => fun a1 a2 a3 h hK => sl86_17 (x_use (x_eq (K := (xK_i Q)) (g86_17_eq a1 a2 a3 h) hK) (fun hK => (x_ite hK (fun hK => (x_ite hK (fun hK => hK) (fun hK => hK))) (fun hK => (x_ite hK (fun hK => (x_ite hK (fun hK => hK) (fun hK => hK))) (fun hK => (x_ite hK (fun hK => (x_ite hK (fun hK => hK) (fun hK => hK))) (fun hK => (x88 (xh_i (x_letk hK (fun hK => ((xw86 n) _ _ _ _ hK)))))))))))))
theorem x86 {E : mx_Ev} {n : Nat} {h : mx_H} {Q : Option mx_V → mx_H → Prop} {a1 : Nat} (hK : (xK_i Q) (f86 a1 h)) : mx_M E n 86 [.inr (.inl 1), .inr (.inr (a1, 0))] h Q := by
  cases n with
  | zero => exact mx_L.zero
  | succ n => exact sl86_0 (x_use (x_eq (K := (xK_i Q)) (f86_eq a1 h) hK) (fun hK => (x59 (xh_n (x_hk hK (fun hK => (x87 (xh_i (x_letk hK (fun hK => ((xw86 n) _ _ _ _ hK)))))))))))
noncomputable def f98 (a0 : Nat) (a1 : Int32) (a2 : Nat) (a3 : Int32) (h : mx_H) : Int32 := x_box (if (h.2.1 (.inr (a0, 1)) (Int32.toNatClampNeg a1)) ≠ (h.2.1 (.inr (a2, 1)) (Int32.toNatClampNeg a3)) then (0 : Int32) else (if (h.2.1 (.inr (a0, 2)) (Int32.toNatClampNeg a1)) ≠ (h.2.1 (.inr (a2, 2)) (Int32.toNatClampNeg a3)) then (0 : Int32) else (if (h.2.1 (.inr (a0, 3)) (Int32.toNatClampNeg a1)) ≠ (h.2.1 (.inr (a2, 3)) (Int32.toNatClampNeg a3)) then (0 : Int32) else (if (h.2.1 (.inr (a0, 4)) (Int32.toNatClampNeg a1)) ≠ (h.2.1 (.inr (a2, 4)) (Int32.toNatClampNeg a3)) then (0 : Int32) else (1 : Int32)))))
theorem f98_eq (a0 : Nat) (a1 : Int32) (a2 : Nat) (a3 : Int32) (h : mx_H) : f98 a0 a1 a2 a3 h = (if (h.2.1 (.inr (a0, 1)) (Int32.toNatClampNeg a1)) ≠ (h.2.1 (.inr (a2, 1)) (Int32.toNatClampNeg a3)) then (0 : Int32) else (if (h.2.1 (.inr (a0, 2)) (Int32.toNatClampNeg a1)) ≠ (h.2.1 (.inr (a2, 2)) (Int32.toNatClampNeg a3)) then (0 : Int32) else (if (h.2.1 (.inr (a0, 3)) (Int32.toNatClampNeg a1)) ≠ (h.2.1 (.inr (a2, 3)) (Int32.toNatClampNeg a3)) then (0 : Int32) else (if (h.2.1 (.inr (a0, 4)) (Int32.toNatClampNeg a1)) ≠ (h.2.1 (.inr (a2, 4)) (Int32.toNatClampNeg a3)) then (0 : Int32) else (1 : Int32))))) := x_box_eq _
theorem x98 {E : mx_Ev} {n : Nat} {h : mx_H} {Q : Option mx_V → mx_H → Prop} {a0 : Nat} {a1 : Int32} {a2 : Nat} {a3 : Int32} (hK : (xK_ip Q h) (f98 a0 a1 a2 a3 h)) : mx_M E n 98 [.inr (.inr (a0, 0)), .inl (.int a1), .inr (.inr (a2, 0)), .inl (.int a3)] h Q := by
  cases n with
  | zero => exact mx_L.zero
  | succ n => exact sl98_0 (x_use (x_eq (K := (xK_ip Q h)) (f98_eq a0 a1 a2 a3 h) hK) (fun hK => (fun _ => (fun _ => (x_ite hK (fun hK => (fun _ => hK)) (fun hK => (fun _ => (fun _ => (x_ite hK (fun hK => (fun _ => hK)) (fun hK => (fun _ => (fun _ => (x_ite hK (fun hK => (fun _ => hK)) (fun hK => (fun _ => (fun _ => (x_ite hK (fun hK => (fun _ => hK)) (fun hK => (fun _ => hK)))))))))))))))))))
noncomputable def b99 : ((Int32 × Int32 × Int32 × mx_H)) → ((Int32 × Int32 × Int32 × mx_H)) ⊕ (Int32)
  | (a1, a2, a3, h) => (if a1 ≤ a3 then (Sum.inr (1 : Int32)) else (if (h.2.1 (.inl 37) (Int32.toNatClampNeg a3)) = a2 then (Sum.inr (0 : Int32)) else (if (f27 2 a3 a1 h) = (f27 3 (h.2.1 (.inl 37) (Int32.toNatClampNeg a3)) a2 h) then (Sum.inl (a1, a2, (a3 + 1), h)) else (Sum.inr (0 : Int32)))))
noncomputable def g99_2 (a1 : Int32) (a2 : Int32) (a3 : Int32) (h : mx_H) : Int32 := ml_wh b99 (a1, a2, a3, h)
theorem g99_2_eq (a1 : Int32) (a2 : Int32) (a3 : Int32) (h : mx_H) : g99_2 a1 a2 a3 h = (if a1 ≤ a3 then (1 : Int32) else (if (h.2.1 (.inl 37) (Int32.toNatClampNeg a3)) = a2 then (0 : Int32) else (if (f27 2 a3 a1 h) = (f27 3 (h.2.1 (.inl 37) (Int32.toNatClampNeg a3)) a2 h) then (g99_2 a1 a2 (a3 + 1) h) else (0 : Int32)))) := by
  unfold g99_2
  rw [ml_wh_eq]
  simp only [b99, ml_go_ite, ml_go_l, ml_go_r, ml_go_opt, ml_go_let, ml_go_h, ml_go_val]
  try rfl
noncomputable def f99 (a1 : Int32) (a2 : Int32) (h : mx_H) : Int32 := x_box (g99_2 a1 a2 0 h)
theorem f99_eq (a1 : Int32) (a2 : Int32) (h : mx_H) : f99 a1 a2 h = (g99_2 a1 a2 0 h) := x_box_eq _
theorem xw99 {E : mx_Ev} {Q : Option mx_V → mx_H → Prop} : ∀ n : Nat, (∀ (a1 : Int32) (a2 : Int32) (a3 : Int32) (h : mx_H), (xK_ip Q h) (g99_2 a1 a2 a3 h) → mx_L E n 99 2 [(0, .inr (.inl 35)), (1, .inl (.int a1)), (2, .inl (.int a2)), (3, .inl (.int a3))] [] h Q)
  | 0 => fun _ _ _ _ _ => mx_L.zero
  | n + 1 => fun a1 a2 a3 h hK => sl99_2 (x_use (x_eq (K := (xK_ip Q h)) (g99_2_eq a1 a2 a3 h) hK) (fun hK => (x_ite hK (fun hK => (fun _ => hK)) (fun hK => (fun _ => (x_ite hK (fun hK => (fun _ => hK)) (fun hK => (x27 (xh_i (fun _ => (x27 (xh_i (x_ite hK (fun hK => ((xw99 n) _ _ _ _ hK)) (fun hK => (fun _ => hK)))))))))))))))
theorem x99 {E : mx_Ev} {n : Nat} {h : mx_H} {Q : Option mx_V → mx_H → Prop} {a1 : Int32} {a2 : Int32} (hK : (xK_ip Q h) (f99 a1 a2 h)) : mx_M E n 99 [.inr (.inl 35), .inl (.int a1), .inl (.int a2)] h Q := by
  cases n with
  | zero => exact mx_L.zero
  | succ n => exact sl99_0 (x_use (x_eq (K := (xK_ip Q h)) (f99_eq a1 a2 h) hK) (fun hK => ((xw99 n) _ _ _ _ hK)))
noncomputable def b100 : ((Int32 × Int32 × Int32 × mx_H)) → ((Int32 × Int32 × Int32 × mx_H)) ⊕ (mx_H)
  | (a1, a2, a3, h) => (if a1 ≤ a3 then (if (h.2.1 (.inl 35) 0) ≠ 0 then (Sum.inr (mx_uI h (.inl 35) 0 ((h.2.1 (.inl 35) 0) + 1))) else (Sum.inr (mx_uI (mx_uI h (.inl 35) 1 a2) (.inl 35) 0 (((mx_uI h (.inl 35) 1 a2).2.1 (.inl 35) 0) + 1)))) else (Sum.inl (a1, ((10 * a2) + (h.2.1 (.inl 37) (Int32.toNatClampNeg a3))), (a3 + 1), mx_uI h (.inl 36) (Int32.toNatClampNeg a3) ((h.2.1 (.inl 36) (Int32.toNatClampNeg a3)) ||| (1 <<< ((h.2.1 (.inl 37) (Int32.toNatClampNeg a3)) &&& 31))))))
noncomputable def g100_4 (a1 : Int32) (a2 : Int32) (a3 : Int32) (h : mx_H) : mx_H := ml_wh b100 (a1, a2, a3, h)
theorem g100_4_eq (a1 : Int32) (a2 : Int32) (a3 : Int32) (h : mx_H) : g100_4 a1 a2 a3 h = (if a1 ≤ a3 then (if (h.2.1 (.inl 35) 0) ≠ 0 then (mx_uI h (.inl 35) 0 ((h.2.1 (.inl 35) 0) + 1)) else (mx_uI (mx_uI h (.inl 35) 1 a2) (.inl 35) 0 (((mx_uI h (.inl 35) 1 a2).2.1 (.inl 35) 0) + 1))) else (g100_4 a1 ((10 * a2) + (h.2.1 (.inl 37) (Int32.toNatClampNeg a3))) (a3 + 1) (mx_uI h (.inl 36) (Int32.toNatClampNeg a3) ((h.2.1 (.inl 36) (Int32.toNatClampNeg a3)) ||| (1 <<< ((h.2.1 (.inl 37) (Int32.toNatClampNeg a3)) &&& 31)))))) := by
  unfold g100_4
  rw [ml_wh_eq]
  simp only [b100, ml_go_ite, ml_go_l, ml_go_r, ml_go_opt, ml_go_let, ml_go_h, ml_go_val]
  try rfl
noncomputable def f100 (a1 : Int32) (h : mx_H) : mx_H := x_box (g100_4 a1 0 0 h)
theorem f100_eq (a1 : Int32) (h : mx_H) : f100 a1 h = (g100_4 a1 0 0 h) := x_box_eq _
theorem xw100 {E : mx_Ev} {Q : Option mx_V → mx_H → Prop} : ∀ n : Nat, (∀ (a1 : Int32) (a2 : Int32) (a3 : Int32) (h : mx_H), (xK_v Q) (g100_4 a1 a2 a3 h) → mx_L E n 100 4 [(0, .inr (.inl 35)), (1, .inl (.int a1)), (2, .inl (.int a2)), (3, .inl (.int a3))] [] h Q)
  | 0 => fun _ _ _ _ _ => mx_L.zero
  | n + 1 => fun a1 a2 a3 h hK => sl100_4 (x_use (x_eq (K := (xK_v Q)) (g100_4_eq a1 a2 a3 h) hK) (fun hK => (x_ite hK (fun hK => (x_ite hK (fun hK => hK) (fun hK => hK))) (fun hK => (fun _ => (fun _ => (fun _ => (fun _ => ((xw100 n) _ _ _ _ hK)))))))))
theorem x100 {E : mx_Ev} {n : Nat} {h : mx_H} {Q : Option mx_V → mx_H → Prop} {a1 : Int32} (hK : (xK_v Q) (f100 a1 h)) : mx_M E n 100 [.inr (.inl 35), .inl (.int a1)] h Q := by
  cases n with
  | zero => exact mx_L.zero
  | succ n => exact sl100_0 (x_use (x_eq (K := (xK_v Q)) (f100_eq a1 h) hK) (fun hK => ((xw100 n) _ _ _ _ hK)))
noncomputable def f102 (a1 : Int32) (a2 : Int32) (h : mx_H) : Int32 × mx_H := x_box (if (f157 a1 1 4) ≠ 0 then (if ((h.2.1 (.inl 1) 1) + a1) ≤ 120 then (x_h (f85 a1 a2 h) (fun h5 => ((h5.2.1 (.inl 1) 1 : Int32), h5))) else (((-3) : Int32), h)) else (((-1) : Int32), h))
theorem f102_eq (a1 : Int32) (a2 : Int32) (h : mx_H) : f102 a1 a2 h = (if (f157 a1 1 4) ≠ 0 then (if ((h.2.1 (.inl 1) 1) + a1) ≤ 120 then (x_h (f85 a1 a2 h) (fun h5 => ((h5.2.1 (.inl 1) 1 : Int32), h5))) else (((-3) : Int32), h)) else (((-1) : Int32), h)) := x_box_eq _
theorem x102 {E : mx_Ev} {n : Nat} {h : mx_H} {Q : Option mx_V → mx_H → Prop} {a1 : Int32} {a2 : Int32} (hK : (xK_i Q) (f102 a1 a2 h)) : mx_M E n 102 [.inr (.inl 0), .inl (.int a1), .inl (.int a2)] h Q := by
  cases n with
  | zero => exact mx_L.zero
  | succ n => exact sl102_0 (x_use (x_eq (K := (xK_i Q)) (f102_eq a1 a2 h) hK) (fun hK => (x157 (xh_i (x_ite hK (fun hK => (x_ite hK (fun hK => (x85 (xh_n (x_hk hK (fun hK => hK))))) (fun hK => hK))) (fun hK => hK))))))
noncomputable def f168 (a1 : Int32) (h : mx_H) : Int32 := x_box (if 12 ≤ (h.2.1 (.inl 0) 2) then (1 : Int32) else (if ((h.2.1 (.inl 90) 0) + a1) ≤ 200 then (0 : Int32) else (1 : Int32)))
theorem f168_eq (a1 : Int32) (h : mx_H) : f168 a1 h = (if 12 ≤ (h.2.1 (.inl 0) 2) then (1 : Int32) else (if ((h.2.1 (.inl 90) 0) + a1) ≤ 200 then (0 : Int32) else (1 : Int32))) := x_box_eq _
theorem x168 {E : mx_Ev} {n : Nat} {h : mx_H} {Q : Option mx_V → mx_H → Prop} {a1 : Int32} (hK : (xK_ip Q h) (f168 a1 h)) : mx_M E n 168 [.inr (.inl 0), .inl (.int a1)] h Q := by
  cases n with
  | zero => exact mx_L.zero
  | succ n => exact sl168_0 (x_use (x_eq (K := (xK_ip Q h)) (f168_eq a1 h) hK) (fun hK => (x_ite hK (fun hK => (fun _ => hK)) (fun hK => (x_ite hK (fun hK => (fun _ => hK)) (fun hK => (fun _ => hK)))))))
noncomputable def f166 (a1 : Int32) (h : mx_H) : Option Nat := x_box (if (f157 a1 0 ((h.2.1 (.inl 0) 2) - 1)) = 0 then none else (x_opt (ml_sn (h.2.2.2 (.inl 3) (Int32.toNatClampNeg a1))) (fun j4 => (some j4)) none))
theorem f166_eq (a1 : Int32) (h : mx_H) : f166 a1 h = (if (f157 a1 0 ((h.2.1 (.inl 0) 2) - 1)) = 0 then none else (x_opt (ml_sn (h.2.2.2 (.inl 3) (Int32.toNatClampNeg a1))) (fun j4 => (some j4)) none)) := x_box_eq _
theorem x166 {E : mx_Ev} {n : Nat} {h : mx_H} {Q : Option mx_V → mx_H → Prop} {a1 : Int32} (hK : (xK_op Q h) (f166 a1 h)) : mx_M E n 166 [.inr (.inl 0), .inl (.int a1)] h Q := by
  cases n with
  | zero => exact mx_L.zero
  | succ n => exact sl166_0 (x_use (x_eq (K := (xK_op Q h)) (f166_eq a1 h) hK) (fun hK => (x157 (xh_i (x_ite hK (fun hK => hK) (fun hK => (fun _ => (x_ref hK (fun j4 hK => hK) (fun hK => hK)))))))))
noncomputable def b104 : ((Int32 × Nat × mx_H) ⊕ (Int32 × Nat × mx_H) ⊕ (Int32 × Nat × mx_H) ⊕ (Int32 × Nat × mx_H) ⊕ (mx_H)) → ((Int32 × Nat × mx_H) ⊕ (Int32 × Nat × mx_H) ⊕ (Int32 × Nat × mx_H) ⊕ (Int32 × Nat × mx_H) ⊕ (mx_H)) ⊕ (Int32)
  | (.inl (a2, a3, h)) => (Sum.inr (h.2.1 (.inr (a3, 1)) (Int32.toNatClampNeg (a2 - a2 / 10 * 10)) : Int32))
  | (.inr (.inl (a2, a3, h))) => (Sum.inr (h.2.1 (.inr (a3, 2)) (Int32.toNatClampNeg (a2 - a2 / 10 * 10)) : Int32))
  | (.inr (.inr (.inl (a2, a3, h)))) => (Sum.inr (h.2.1 (.inr (a3, 3)) (Int32.toNatClampNeg (a2 - a2 / 10 * 10)) : Int32))
  | (.inr (.inr (.inr (.inl (a2, a3, h))))) => (Sum.inr (h.2.1 (.inr (a3, 4)) (Int32.toNatClampNeg (a2 - a2 / 10 * 10)) : Int32))
  | (.inr (.inr (.inr (.inr h)))) => (Sum.inr ((-2000000000) : Int32))
noncomputable def g104_96 (a2 : Int32) (a3 : Nat) (h : mx_H) : Int32 := ml_wh b104 (.inl (a2, a3, h))
noncomputable def g104_106 (a2 : Int32) (a3 : Nat) (h : mx_H) : Int32 := ml_wh b104 (.inr (.inl (a2, a3, h)))
noncomputable def g104_116 (a2 : Int32) (a3 : Nat) (h : mx_H) : Int32 := ml_wh b104 (.inr (.inr (.inl (a2, a3, h))))
noncomputable def g104_126 (a2 : Int32) (a3 : Nat) (h : mx_H) : Int32 := ml_wh b104 (.inr (.inr (.inr (.inl (a2, a3, h)))))
noncomputable def g104_136  (h : mx_H) : Int32 := ml_wh b104 (.inr (.inr (.inr (.inr h))))
noncomputable def f104 (a1 : Int32) (a2 : Int32) (h : mx_H) : Int32 := x_box (x_opt (f166 a1 h) (fun j3 => (if a2 ≠ 0 then (if a2 ≠ 1 then (if a2 ≠ 2 then (if a2 < 10 then ((-2000000000) : Int32) else (if (a2 - a2 / 10 * 10) < (h.2.1 (.inr (j3, 0)) 0) then (if (a2 / 10) = 1 then (g104_96 a2 j3 h) else (if (a2 / 10) = 2 then (g104_106 a2 j3 h) else (if (a2 / 10) = 3 then (g104_116 a2 j3 h) else (if (a2 / 10) = 4 then (g104_126 a2 j3 h) else (g104_136  h))))) else ((-2000000000) : Int32))) else ((f60 j3 h) : Int32)) else (h.2.1 (.inr (j3, 0)) 6 : Int32)) else (h.2.1 (.inr (j3, 0)) 0 : Int32))) ((-2000000000) : Int32))
noncomputable def f164 (a0 : Nat) (a1 : Int32) (h : mx_H) : Int32 := x_box (if (f157 a1 0 ((h.2.1 (.inr (a0, 0)) 0) - 1)) = 0 then (0 : Int32) else (1 : Int32))
theorem f164_eq (a0 : Nat) (a1 : Int32) (h : mx_H) : f164 a0 a1 h = (if (f157 a1 0 ((h.2.1 (.inr (a0, 0)) 0) - 1)) = 0 then (0 : Int32) else (1 : Int32)) := x_box_eq _
theorem x164 {E : mx_Ev} {n : Nat} {h : mx_H} {Q : Option mx_V → mx_H → Prop} {a0 : Nat} {a1 : Int32} (hK : (xK_ip Q h) (f164 a0 a1 h)) : mx_M E n 164 [.inr (.inr (a0, 0)), .inl (.int a1)] h Q := by
  cases n with
  | zero => exact mx_L.zero
  | succ n => exact sl164_0 (x_use (x_eq (K := (xK_ip Q h)) (f164_eq a0 a1 h) hK) (fun hK => (x157 (xh_i (x_ite hK (fun hK => (fun _ => hK)) (fun hK => (fun _ => hK)))))))
noncomputable def f164_null (a1 : Int32) (h : mx_H) : Int32 := x_box (0 : Int32)
theorem f164_null_eq (a1 : Int32) (h : mx_H) : f164_null a1 h = (0 : Int32) := x_box_eq _
theorem x164_null {E : mx_Ev} {n : Nat} {h : mx_H} {Q : Option mx_V → mx_H → Prop} {a1 : Int32} (hK : (xK_ip Q h) (f164_null a1 h)) : mx_M E n 164 [.inl .null, .inl (.int a1)] h Q := by
  cases n with
  | zero => exact mx_L.zero
  | succ n => exact sl164_null_0 (x_use (x_eq (K := (xK_ip Q h)) (f164_null_eq a1 h) hK) (fun hK => (fun _ => hK)))
noncomputable def f105 (a1 : Int32) (a2 : Int32) (a3 : Int32) (a4 : Int32) (h : mx_H) : Int32 := x_box (x_opt (f166 a1 h) (fun j3 => (if (f164 j3 a2 h) = 0 then ((-1) : Int32) else (if (f164 j3 a3 h) = 0 then ((-1) : Int32) else (if (f157 a4 0 2) ≠ 0 then (x_val (f61 j3 a2 a3 h) (fun x15 => (if 0 ≤ x15 then (if a4 ≠ 0 then (if a4 ≠ 1 then (h.2.1 (.inr (j3, 8)) (Int32.toNatClampNeg x15) : Int32) else (h.2.1 (.inr (j3, 7)) (Int32.toNatClampNeg x15) : Int32)) else ((h.2.1 (.inr (j3, 0)) 5) + x15 : Int32)) else ((-2) : Int32)))) else ((-1) : Int32))))) ((-1) : Int32))
noncomputable def f170 (a1 : Nat) (a2 : Int32) (a3 : Int32) (a4 : Int32) (h : mx_H) : Int32 × mx_H := x_box (x_val (f66 a1 a2 a3 h) (fun x3 => (if x3 = a4 then ((x3 : Int32), h) else (x_h (f67 a1 a2 a3 a4 h) (fun h5 => (x_h (f17 a1 a2 a3 x3 a4 h5) (fun h7 => ((x3 : Int32), h7))))))))
theorem f170_eq (a1 : Nat) (a2 : Int32) (a3 : Int32) (a4 : Int32) (h : mx_H) : f170 a1 a2 a3 a4 h = (x_val (f66 a1 a2 a3 h) (fun x3 => (if x3 = a4 then ((x3 : Int32), h) else (x_h (f67 a1 a2 a3 a4 h) (fun h5 => (x_h (f17 a1 a2 a3 x3 a4 h5) (fun h7 => ((x3 : Int32), h7)))))))) := x_box_eq _
theorem x170 {E : mx_Ev} {n : Nat} {h : mx_H} {Q : Option mx_V → mx_H → Prop} {a1 : Nat} {a2 : Int32} {a3 : Int32} {a4 : Int32} (hK : (xK_i Q) (f170 a1 a2 a3 a4 h)) : mx_M E n 170 [.inr (.inl 0), .inr (.inr (a1, 0)), .inl (.int a2), .inl (.int a3), .inl (.int a4)] h Q := by
  cases n with
  | zero => exact mx_L.zero
  | succ n => exact sl170_0 (x_use (x_eq (K := (xK_i Q)) (f170_eq a1 a2 a3 a4 h) hK) (fun hK => (x66 (xh_i (x_valk hK (fun hK => (x_ite hK (fun hK => hK) (fun hK => (x67 (xh_n (x_hk hK (fun hK => (x17 (xh_n (x_hk hK (fun hK => hK))))))))))))))))
noncomputable def f106 (a1 : Int32) (a2 : Int32) (a3 : Int32) (a4 : Int32) (h : mx_H) : Int32 × mx_H := x_box (x_opt (f166 a1 h) (fun j3 => (if (f164 j3 a2 h) = 0 then (((-1) : Int32), h) else (if (f157 a3 0 2) ≠ 0 then (if a3 ≠ 2 then (if (f157 a4 0 9) ≠ 0 then (x_let (f170 j3 a3 a2 a4 h) (fun x15 h14 => ((x15 : Int32), h14))) else (((-1) : Int32), h)) else (if (f157 a4 0 1) ≠ 0 then (x_let (f170 j3 a3 a2 a4 h) (fun x21 h20 => ((x21 : Int32), h20))) else (((-1) : Int32), h))) else (((-1) : Int32), h)))) (((-1) : Int32), h))
theorem f106_eq (a1 : Int32) (a2 : Int32) (a3 : Int32) (a4 : Int32) (h : mx_H) : f106 a1 a2 a3 a4 h = (x_opt (f166 a1 h) (fun j3 => (if (f164 j3 a2 h) = 0 then (((-1) : Int32), h) else (if (f157 a3 0 2) ≠ 0 then (if a3 ≠ 2 then (if (f157 a4 0 9) ≠ 0 then (x_let (f170 j3 a3 a2 a4 h) (fun x15 h14 => ((x15 : Int32), h14))) else (((-1) : Int32), h)) else (if (f157 a4 0 1) ≠ 0 then (x_let (f170 j3 a3 a2 a4 h) (fun x21 h20 => ((x21 : Int32), h20))) else (((-1) : Int32), h))) else (((-1) : Int32), h)))) (((-1) : Int32), h)) := x_box_eq _
theorem x106 {E : mx_Ev} {n : Nat} {h : mx_H} {Q : Option mx_V → mx_H → Prop} {a1 : Int32} {a2 : Int32} {a3 : Int32} {a4 : Int32} (hK : (xK_i Q) (f106 a1 a2 a3 a4 h)) : mx_M E n 106 [.inr (.inl 0), .inl (.int a1), .inl (.int a2), .inl (.int a3), .inl (.int a4)] h Q := by
  cases n with
  | zero => exact mx_L.zero
  | succ n => exact sl106_0 (x_use (x_eq (K := (xK_i Q)) (f106_eq a1 a2 a3 a4 h) hK) (fun hK => (x166 (x_ov hK (fun j3 hK => (x164 (xh_i (x_ite hK (fun hK => hK) (fun hK => (x157 (xh_i (x_ite hK (fun hK => (x_ite hK (fun hK => (x157 (xh_i (x_ite hK (fun hK => (x170 (xh_i (x_letk hK (fun hK => hK))))) (fun hK => hK))))) (fun hK => (x157 (xh_i (x_ite hK (fun hK => (x170 (xh_i (x_letk hK (fun hK => hK))))) (fun hK => hK))))))) (fun hK => hK))))))))) (fun hK => (x164_null (xh_i ⟨fun _ => hK, fun q => absurd (f164_null_eq _ _) q⟩)))))))
noncomputable def f107 (a1 : Int32) (a2 : Int32) (a3 : Int32) (a4 : Int32) (h : mx_H) : Int32 × mx_H := x_box (x_opt (f166 a1 h) (fun j3 => (if (f164 j3 a2 h) = 0 then (((-1) : Int32), h) else (if (f164 j3 a3 h) = 0 then (((-1) : Int32), h) else (if (f157 a4 0 9) ≠ 0 then (x_val (f61 j3 a2 a3 h) (fun x15 => (if 0 ≤ x15 then (if a4 ≤ (h.2.1 (.inr (j3, 7)) (Int32.toNatClampNeg x15)) then (x_let (f170 j3 4 x15 (f65 (h.2.1 (.inr (j3, 7)) (Int32.toNatClampNeg x15)) a4) h) (fun x21 h20 => ((x21 - x21 / 10 * 10 : Int32), h20))) else (((-1) : Int32), h)) else (((-2) : Int32), h)))) else (((-1) : Int32), h))))) (((-1) : Int32), h))
theorem f107_eq (a1 : Int32) (a2 : Int32) (a3 : Int32) (a4 : Int32) (h : mx_H) : f107 a1 a2 a3 a4 h = (x_opt (f166 a1 h) (fun j3 => (if (f164 j3 a2 h) = 0 then (((-1) : Int32), h) else (if (f164 j3 a3 h) = 0 then (((-1) : Int32), h) else (if (f157 a4 0 9) ≠ 0 then (x_val (f61 j3 a2 a3 h) (fun x15 => (if 0 ≤ x15 then (if a4 ≤ (h.2.1 (.inr (j3, 7)) (Int32.toNatClampNeg x15)) then (x_let (f170 j3 4 x15 (f65 (h.2.1 (.inr (j3, 7)) (Int32.toNatClampNeg x15)) a4) h) (fun x21 h20 => ((x21 - x21 / 10 * 10 : Int32), h20))) else (((-1) : Int32), h)) else (((-2) : Int32), h)))) else (((-1) : Int32), h))))) (((-1) : Int32), h)) := x_box_eq _
theorem x107 {E : mx_Ev} {n : Nat} {h : mx_H} {Q : Option mx_V → mx_H → Prop} {a1 : Int32} {a2 : Int32} {a3 : Int32} {a4 : Int32} (hK : (xK_i Q) (f107 a1 a2 a3 a4 h)) : mx_M E n 107 [.inr (.inl 0), .inl (.int a1), .inl (.int a2), .inl (.int a3), .inl (.int a4)] h Q := by
  cases n with
  | zero => exact mx_L.zero
  | succ n => exact sl107_0 (x_use (x_eq (K := (xK_i Q)) (f107_eq a1 a2 a3 a4 h) hK) (fun hK => (x166 (x_ov hK (fun j3 hK => (x164 (xh_i (x_ite hK (fun hK => hK) (fun hK => (x164 (xh_i (x_ite hK (fun hK => hK) (fun hK => (x157 (xh_i (x_ite hK (fun hK => (x61 (xh_i (x_valk hK (fun hK => (x_ite hK (fun hK => (fun _ => (x_ite hK (fun hK => (fun _ => (x65 (xh_i (x170 (xh_i (x_letk hK (fun hK => (fun _ => hK))))))))) (fun hK => hK)))) (fun hK => hK))))))) (fun hK => hK))))))))))))) (fun hK => (x164_null (xh_i ⟨fun _ => hK, fun q => absurd (f164_null_eq _ _) q⟩)))))))

