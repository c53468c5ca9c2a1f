/-! ===== methods as functions (10ze.x0) ===== -/
noncomputable def f2 (a1 : Int32) (a2 : Int32) (a3 : Int32) (h : mx_H) : mx_H := x_box (if (h.2.1 (.inl 71) 7) < 6 then (mx_uI (mx_uI (mx_uI (mx_uI h (.inl 77) (Int32.toNatClampNeg (h.2.1 (.inl 71) 7)) a1) (.inl 78) (Int32.toNatClampNeg ((mx_uI h (.inl 77) (Int32.toNatClampNeg (h.2.1 (.inl 71) 7)) a1).2.1 (.inl 71) 7)) a2) (.inl 79) (Int32.toNatClampNeg ((mx_uI (mx_uI h (.inl 77) (Int32.toNatClampNeg (h.2.1 (.inl 71) 7)) a1) (.inl 78) (Int32.toNatClampNeg ((mx_uI h (.inl 77) (Int32.toNatClampNeg (h.2.1 (.inl 71) 7)) a1).2.1 (.inl 71) 7)) a2).2.1 (.inl 71) 7)) a3) (.inl 71) 7 (((mx_uI (mx_uI (mx_uI h (.inl 77) (Int32.toNatClampNeg (h.2.1 (.inl 71) 7)) a1) (.inl 78) (Int32.toNatClampNeg ((mx_uI h (.inl 77) (Int32.toNatClampNeg (h.2.1 (.inl 71) 7)) a1).2.1 (.inl 71) 7)) a2) (.inl 79) (Int32.toNatClampNeg ((mx_uI (mx_uI h (.inl 77) (Int32.toNatClampNeg (h.2.1 (.inl 71) 7)) a1) (.inl 78) (Int32.toNatClampNeg ((mx_uI h (.inl 77) (Int32.toNatClampNeg (h.2.1 (.inl 71) 7)) a1).2.1 (.inl 71) 7)) a2).2.1 (.inl 71) 7)) a3).2.1 (.inl 71) 7) + 1)) else h)
theorem f2_eq (a1 : Int32) (a2 : Int32) (a3 : Int32) (h : mx_H) : f2 a1 a2 a3 h = (if (h.2.1 (.inl 71) 7) < 6 then (mx_uI (mx_uI (mx_uI (mx_uI h (.inl 77) (Int32.toNatClampNeg (h.2.1 (.inl 71) 7)) a1) (.inl 78) (Int32.toNatClampNeg ((mx_uI h (.inl 77) (Int32.toNatClampNeg (h.2.1 (.inl 71) 7)) a1).2.1 (.inl 71) 7)) a2) (.inl 79) (Int32.toNatClampNeg ((mx_uI (mx_uI h (.inl 77) (Int32.toNatClampNeg (h.2.1 (.inl 71) 7)) a1) (.inl 78) (Int32.toNatClampNeg ((mx_uI h (.inl 77) (Int32.toNatClampNeg (h.2.1 (.inl 71) 7)) a1).2.1 (.inl 71) 7)) a2).2.1 (.inl 71) 7)) a3) (.inl 71) 7 (((mx_uI (mx_uI (mx_uI h (.inl 77) (Int32.toNatClampNeg (h.2.1 (.inl 71) 7)) a1) (.inl 78) (Int32.toNatClampNeg ((mx_uI h (.inl 77) (Int32.toNatClampNeg (h.2.1 (.inl 71) 7)) a1).2.1 (.inl 71) 7)) a2) (.inl 79) (Int32.toNatClampNeg ((mx_uI (mx_uI h (.inl 77) (Int32.toNatClampNeg (h.2.1 (.inl 71) 7)) a1) (.inl 78) (Int32.toNatClampNeg ((mx_uI h (.inl 77) (Int32.toNatClampNeg (h.2.1 (.inl 71) 7)) a1).2.1 (.inl 71) 7)) a2).2.1 (.inl 71) 7)) a3).2.1 (.inl 71) 7) + 1)) else h) := x_box_eq _
theorem x2 {E : mx_Ev} {n : Nat} {h : mx_H} {Q : Option mx_V → mx_H → Prop} {a1 : Int32} {a2 : Int32} {a3 : Int32} (hK : (xK_v Q) (f2 a1 a2 a3 h)) : mx_M E n 2 [.inr (.inl 71), .inl (.int a1), .inl (.int a2), .inl (.int a3)] h Q := by
  cases n with
  | zero => exact mx_L.zero
  | succ n => exact sl2_0 (x_use (x_eq (K := (xK_v Q)) (f2_eq a1 a2 a3 h) hK) (fun hK => (x_ite hK (fun hK => (fun _ => (fun _ => (fun _ => hK)))) (fun hK => hK))))
noncomputable def b317 : ((mx_A × Int32 × Int32 × Int32 × mx_H)) → ((mx_A × Int32 × Int32 × Int32 × mx_H)) ⊕ (mx_H)
  | (a0, a1, a2, a3, h) => (if a3 ≤ a2 then (Sum.inr h) else (Sum.inl (a0, a1, (a2 + 1), a3, mx_uI h a0 (Int32.toNatClampNeg a2) a1)))
noncomputable def g317_5 (a0 : mx_A) (a1 : Int32) (a2 : Int32) (a3 : Int32) (h : mx_H) : mx_H := ml_wh b317 (a0, a1, a2, a3, h)
theorem g317_5_eq (a0 : mx_A) (a1 : Int32) (a2 : Int32) (a3 : Int32) (h : mx_H) : g317_5 a0 a1 a2 a3 h = (if a3 ≤ a2 then h else (g317_5 a0 a1 (a2 + 1) a3 (mx_uI h a0 (Int32.toNatClampNeg a2) a1))) := by
  unfold g317_5
  rw [ml_wh_eq]
  simp only [b317, ml_go_ite, ml_go_l, ml_go_r, ml_go_opt, ml_go_let, ml_go_h, ml_go_val]
  try rfl
noncomputable def f317 (a0 : mx_A) (a1 : Int32) (h : mx_H) : mx_H := x_box (g317_5 a0 a1 0 (Int32.ofNat (mx_lo a0).2) h)
theorem f317_eq (a0 : mx_A) (a1 : Int32) (h : mx_H) : f317 a0 a1 h = (g317_5 a0 a1 0 (Int32.ofNat (mx_lo a0).2) h) := x_box_eq _
theorem xw317 {E : mx_Ev} {Q : Option mx_V → mx_H → Prop} : ∀ n : Nat, (∀ (a0 : mx_A) (a1 : Int32) (a2 : Int32) (a3 : Int32) (h : mx_H), (xK_v Q) (g317_5 a0 a1 a2 a3 h) → mx_L E n 317 5 [(0, .inr a0), (1, .inl (.int a1)), (2, .inl (.int a2)), (3, .inl (.int a3))] [] h Q)
  | 0 => fun _ _ _ _ _ _ => mx_L.zero
  | n + 1 => fun a0 a1 a2 a3 h hK => sl317_5 (x_use (x_eq (K := (xK_v Q)) (g317_5_eq a0 a1 a2 a3 h) hK) (fun hK => (x_ite hK (fun hK => hK) (fun hK => (x_mli (fun _ => ((xw317 n) _ _ _ _ _ hK)))))))
theorem x317 {E : mx_Ev} {n : Nat} {h : mx_H} {Q : Option mx_V → mx_H → Prop} {a0 : mx_A} {a1 : Int32} (hK : (xK_v Q) (f317 a0 a1 h)) : mx_M E n 317 [.inr a0, .inl (.int a1)] h Q := by
  cases n with
  | zero => exact mx_L.zero
  | succ n => exact sl317_0 (x_use (x_eq (K := (xK_v Q)) (f317_eq a0 a1 h) hK) (fun hK => ((xw317 n) _ _ _ _ _ hK)))
noncomputable def b3 : ((Nat × Int32 × mx_H)) → ((Nat × Int32 × mx_H)) ⊕ (mx_H)
  | (a1, a2, h) => (if 4 ≤ a2 then (Sum.inr h) else (if (h.2.1 (.inr (a1, 30)) 0) ≤ (h.2.1 (.inl 72) (Int32.toNatClampNeg a2)) then (Sum.inl (a1, (a2 + 1), mx_uI h (.inl 73) (Int32.toNatClampNeg a2) (-1))) else (Sum.inl (a1, (a2 + 1), mx_uI h (.inl 73) (Int32.toNatClampNeg a2) (h.2.1 (.inl 72) (Int32.toNatClampNeg a2))))))
noncomputable def g3_18 (a1 : Nat) (a2 : Int32) (h : mx_H) : mx_H := ml_wh b3 (a1, a2, h)
theorem g3_18_eq (a1 : Nat) (a2 : Int32) (h : mx_H) : g3_18 a1 a2 h = (if 4 ≤ a2 then h else (if (h.2.1 (.inr (a1, 30)) 0) ≤ (h.2.1 (.inl 72) (Int32.toNatClampNeg a2)) then (g3_18 a1 (a2 + 1) (mx_uI h (.inl 73) (Int32.toNatClampNeg a2) (-1))) else (g3_18 a1 (a2 + 1) (mx_uI h (.inl 73) (Int32.toNatClampNeg a2) (h.2.1 (.inl 72) (Int32.toNatClampNeg a2)))))) := by
  unfold g3_18
  rw [ml_wh_eq]
  simp only [b3, ml_go_ite, ml_go_l, ml_go_r, ml_go_opt, ml_go_let, ml_go_h, ml_go_val]
  try rfl
noncomputable def f3 (a1 : Nat) (h : mx_H) : mx_H := x_box (x_h (f317 (.inl 75) 0 h) (fun h2 => (x_h (f317 (.inl 76) 0 h2) (fun h4 => (g3_18 a1 0 h4)))))
theorem f3_eq (a1 : Nat) (h : mx_H) : f3 a1 h = (x_h (f317 (.inl 75) 0 h) (fun h2 => (x_h (f317 (.inl 76) 0 h2) (fun h4 => (g3_18 a1 0 h4))))) := x_box_eq _
theorem xw3 {E : mx_Ev} {Q : Option mx_V → mx_H → Prop} : ∀ n : Nat, (∀ (a1 : Nat) (a2 : Int32) (h : mx_H), (xK_v Q) (g3_18 a1 a2 h) → mx_L E n 3 18 [(0, .inr (.inl 71)), (1, .inr (.inr (a1, 30))), (2, .inl (.int a2))] [] h Q)
  | 0 => fun _ _ _ _ => mx_L.zero
  | n + 1 => fun a1 a2 h hK => sl3_18 (x_use (x_eq (K := (xK_v Q)) (g3_18_eq a1 a2 h) hK) (fun hK => (x_ite hK (fun hK => hK) (fun hK => (fun _ => (x_ite hK (fun hK => (fun _ => ((xw3 n) _ _ _ hK))) (fun hK => (fun _ => (fun _ => ((xw3 n) _ _ _ hK))))))))))
theorem x3 {E : mx_Ev} {n : Nat} {h : mx_H} {Q : Option mx_V → mx_H → Prop} {a1 : Nat} (hK : (xK_v Q) (f3 a1 h)) : mx_M E n 3 [.inr (.inl 71), .inr (.inr (a1, 30))] h Q := by
  cases n with
  | zero => exact mx_L.zero
  | succ n => exact sl3_0 (x_use (x_eq (K := (xK_v Q)) (f3_eq a1 h) hK) (fun hK => (x317 (xh_n (x_hk hK (fun hK => (x317 (xh_n (x_hk hK (fun hK => ((xw3 n) _ _ _ hK)))))))))))
noncomputable def f4 (a1 : Nat) (a2 : Int32) (a3 : Int32) (h : mx_H) : mx_H := x_box (if (h.2.1 (.inr (a1, 30)) 0) ≤ a2 then h else (if (h.2.1 (.inr (a1, 33)) (Int32.toNatClampNeg a2)) ≠ 0 then h else (mx_uI h (.inl 76) (Int32.toNatClampNeg a2) ((h.2.1 (.inl 76) (Int32.toNatClampNeg a2)) + (64 * a3)))))
theorem f4_eq (a1 : Nat) (a2 : Int32) (a3 : Int32) (h : mx_H) : f4 a1 a2 a3 h = (if (h.2.1 (.inr (a1, 30)) 0) ≤ a2 then h else (if (h.2.1 (.inr (a1, 33)) (Int32.toNatClampNeg a2)) ≠ 0 then h else (mx_uI h (.inl 76) (Int32.toNatClampNeg a2) ((h.2.1 (.inl 76) (Int32.toNatClampNeg a2)) + (64 * a3))))) := x_box_eq _
theorem x4 {E : mx_Ev} {n : Nat} {h : mx_H} {Q : Option mx_V → mx_H → Prop} {a1 : Nat} {a2 : Int32} {a3 : Int32} (hK : (xK_v Q) (f4 a1 a2 a3 h)) : mx_M E n 4 [.inr (.inl 71), .inr (.inr (a1, 30)), .inl (.int a2), .inl (.int a3)] h Q := by
  cases n with
  | zero => exact mx_L.zero
  | succ n => exact sl4_0 (x_use (x_eq (K := (xK_v Q)) (f4_eq a1 a2 a3 h) hK) (fun hK => (x_ite hK (fun hK => hK) (fun hK => (fun _ => (x_ite hK (fun hK => hK) (fun hK => (fun _ => (fun _ => hK)))))))))
noncomputable def f27 (t0 : Nat) (a1 : Int32) (a2 : Int32) (h : mx_H) : Int32 := x_box (h.2.1 (.inr (t0, 34)) (Int32.toNatClampNeg ((6 * a1) + a2)) : Int32)
theorem f27_eq (t0 : Nat) (a1 : Int32) (a2 : Int32) (h : mx_H) : f27 t0 a1 a2 h = (h.2.1 (.inr (t0, 34)) (Int32.toNatClampNeg ((6 * a1) + a2)) : Int32) := x_box_eq _
theorem x27 {E : mx_Ev} {n : Nat} {h : mx_H} {Q : Option mx_V → mx_H → Prop} {t0 : Nat} {a1 : Int32} {a2 : Int32} (hK : (xK_ip Q h) (f27 t0 a1 a2 h)) : mx_M E n 27 [.inr (.inr (t0, 30)), .inl (.int a1), .inl (.int a2)] h Q := by
  cases n with
  | zero => exact mx_L.zero
  | succ n => exact sl27_0 (x_use (x_eq (K := (xK_ip Q h)) (f27_eq t0 a1 a2 h) hK) (fun hK => (fun _ => hK)))
noncomputable def b6 : ((Nat × Int32 × Int32 × Int32 × mx_H)) → ((Nat × Int32 × Int32 × Int32 × mx_H)) ⊕ (mx_H)
  | (a1, a2, a3, a4, h) => (if (h.2.1 (.inr (a1, 30)) 0) ≤ a4 then (Sum.inr (mx_uI (mx_uI h (.inl 76) (Int32.toNatClampNeg a2) ((h.2.1 (.inl 76) (Int32.toNatClampNeg a2)) - ((a3 / (if 1 < (h.2.1 (.inr (a1, 31)) (Int32.toNatClampNeg a2)) then (h.2.1 (.inr (a1, 31)) (Int32.toNatClampNeg a2)) else 1)) / 8))) (.inl 76) (Int32.toNatClampNeg a2) (((mx_uI h (.inl 76) (Int32.toNatClampNeg a2) ((h.2.1 (.inl 76) (Int32.toNatClampNeg a2)) - ((a3 / (if 1 < (h.2.1 (.inr (a1, 31)) (Int32.toNatClampNeg a2)) then (h.2.1 (.inr (a1, 31)) (Int32.toNatClampNeg a2)) else 1)) / 8))).2.1 (.inl 76) (Int32.toNatClampNeg a2)) - ((((mx_uI h (.inl 76) (Int32.toNatClampNeg a2) ((h.2.1 (.inl 76) (Int32.toNatClampNeg a2)) - ((a3 / (if 1 < (h.2.1 (.inr (a1, 31)) (Int32.toNatClampNeg a2)) then (h.2.1 (.inr (a1, 31)) (Int32.toNatClampNeg a2)) else 1)) / 8))).2.1 (.inl 76) (Int32.toNatClampNeg a2)) * ((mx_uI h (.inl 76) (Int32.toNatClampNeg a2) ((h.2.1 (.inl 76) (Int32.toNatClampNeg a2)) - ((a3 / (if 1 < (h.2.1 (.inr (a1, 31)) (Int32.toNatClampNeg a2)) then (h.2.1 (.inr (a1, 31)) (Int32.toNatClampNeg a2)) else 1)) / 8))).2.1 (.inl 71) 0)) / 1000)))) else (Sum.inl (a1, a2, (a3 + ((f27 a1 a2 a4 h) * ((h.2.1 (.inl 75) (Int32.toNatClampNeg a2)) - (h.2.1 (.inl 75) (Int32.toNatClampNeg a4))))), (a4 + 1), h)))
noncomputable def g6_17 (a1 : Nat) (a2 : Int32) (a3 : Int32) (a4 : Int32) (h : mx_H) : mx_H := ml_wh b6 (a1, a2, a3, a4, h)
theorem g6_17_eq (a1 : Nat) (a2 : Int32) (a3 : Int32) (a4 : Int32) (h : mx_H) : g6_17 a1 a2 a3 a4 h = (if (h.2.1 (.inr (a1, 30)) 0) ≤ a4 then (mx_uI (mx_uI h (.inl 76) (Int32.toNatClampNeg a2) ((h.2.1 (.inl 76) (Int32.toNatClampNeg a2)) - ((a3 / (if 1 < (h.2.1 (.inr (a1, 31)) (Int32.toNatClampNeg a2)) then (h.2.1 (.inr (a1, 31)) (Int32.toNatClampNeg a2)) else 1)) / 8))) (.inl 76) (Int32.toNatClampNeg a2) (((mx_uI h (.inl 76) (Int32.toNatClampNeg a2) ((h.2.1 (.inl 76) (Int32.toNatClampNeg a2)) - ((a3 / (if 1 < (h.2.1 (.inr (a1, 31)) (Int32.toNatClampNeg a2)) then (h.2.1 (.inr (a1, 31)) (Int32.toNatClampNeg a2)) else 1)) / 8))).2.1 (.inl 76) (Int32.toNatClampNeg a2)) - ((((mx_uI h (.inl 76) (Int32.toNatClampNeg a2) ((h.2.1 (.inl 76) (Int32.toNatClampNeg a2)) - ((a3 / (if 1 < (h.2.1 (.inr (a1, 31)) (Int32.toNatClampNeg a2)) then (h.2.1 (.inr (a1, 31)) (Int32.toNatClampNeg a2)) else 1)) / 8))).2.1 (.inl 76) (Int32.toNatClampNeg a2)) * ((mx_uI h (.inl 76) (Int32.toNatClampNeg a2) ((h.2.1 (.inl 76) (Int32.toNatClampNeg a2)) - ((a3 / (if 1 < (h.2.1 (.inr (a1, 31)) (Int32.toNatClampNeg a2)) then (h.2.1 (.inr (a1, 31)) (Int32.toNatClampNeg a2)) else 1)) / 8))).2.1 (.inl 71) 0)) / 1000))) else (g6_17 a1 a2 (a3 + ((f27 a1 a2 a4 h) * ((h.2.1 (.inl 75) (Int32.toNatClampNeg a2)) - (h.2.1 (.inl 75) (Int32.toNatClampNeg a4))))) (a4 + 1) h)) := by
  unfold g6_17
  rw [ml_wh_eq]
  simp only [b6, ml_go_ite, ml_go_l, ml_go_r, ml_go_opt, ml_go_let, ml_go_h, ml_go_val]
  try rfl
noncomputable def f6 (a1 : Nat) (a2 : Int32) (h : mx_H) : mx_H := x_box (g6_17 a1 a2 ((h.2.1 (.inr (a1, 32)) (Int32.toNatClampNeg a2)) * (h.2.1 (.inl 75) (Int32.toNatClampNeg a2))) 0 h)
theorem f6_eq (a1 : Nat) (a2 : Int32) (h : mx_H) : f6 a1 a2 h = (g6_17 a1 a2 ((h.2.1 (.inr (a1, 32)) (Int32.toNatClampNeg a2)) * (h.2.1 (.inl 75) (Int32.toNatClampNeg a2))) 0 h) := x_box_eq _
theorem xw6 {E : mx_Ev} {Q : Option mx_V → mx_H → Prop} : ∀ n : Nat, (∀ (a1 : Nat) (a2 : Int32) (a3 : Int32) (a4 : Int32) (h : mx_H), (xK_v Q) (g6_17 a1 a2 a3 a4 h) → mx_L E n 6 17 [(0, .inr (.inl 71)), (1, .inr (.inr (a1, 30))), (2, .inl (.int a2)), (3, .inl (.int a3)), (4, .inl (.int a4))] [] h Q)
  | 0 => fun _ _ _ _ _ _ => mx_L.zero
  | n + 1 => fun a1 a2 a3 a4 h hK => sl6_17 (x_use (x_eq (K := (xK_v Q)) (g6_17_eq a1 a2 a3 a4 h) hK) (fun hK => (x_ite hK (fun hK => (fun _ => (fun _ => (fun _ => (fun _ => (fun _ => (fun _ => (fun _ => (fun _ => (fun _ => hK)))))))))) (fun hK => (x27 (xh_i (fun _ => (fun _ => ((xw6 n) _ _ _ _ _ hK)))))))))
theorem x6 {E : mx_Ev} {n : Nat} {h : mx_H} {Q : Option mx_V → mx_H → Prop} {a1 : Nat} {a2 : Int32} (hK : (xK_v Q) (f6 a1 a2 h)) : mx_M E n 6 [.inr (.inl 71), .inr (.inr (a1, 30)), .inl (.int a2)] h Q := by
  cases n with
  | zero => exact mx_L.zero
  | succ n => exact sl6_0 (x_use (x_eq (K := (xK_v Q)) (f6_eq a1 a2 h) hK) (fun hK => (fun _ => (fun _ => ((xw6 n) _ _ _ _ _ hK)))))
noncomputable def b5 : ((Nat × Int32 × Int32 × Int32 × Int32 × mx_H) ⊕ (Nat × Int32 × Int32 × Int32 × Int32 × Int32 × mx_H) ⊕ (Nat × Int32 × Int32 × Int32 × Int32 × Int32 × mx_H) ⊕ (Nat × Int32 × Int32 × Int32 × Int32 × Int32 × mx_H) ⊕ (Nat × Int32 × Int32 × Int32 × Int32 × Int32 × mx_H)) → ((Nat × Int32 × Int32 × Int32 × Int32 × mx_H) ⊕ (Nat × Int32 × Int32 × Int32 × Int32 × Int32 × mx_H) ⊕ (Nat × Int32 × Int32 × Int32 × Int32 × Int32 × mx_H) ⊕ (Nat × Int32 × Int32 × Int32 × Int32 × Int32 × mx_H) ⊕ (Nat × Int32 × Int32 × Int32 × Int32 × Int32 × mx_H)) ⊕ (Int32 × mx_H)
  | (.inl (a1, a2, a3, a4, a5, h)) => (if a2 ≤ a5 then (Sum.inr ((a4 : Int32), h)) else (if 200 ≤ a5 then (Sum.inr ((a4 : Int32), h)) else (Sum.inl (.inr (.inl (a1, a2, a3, a4, a5, 0, h))))))
  | (.inr (.inl (a1, a2, a3, a4, a5, a6, h))) => (if a3 ≤ a6 then (Sum.inl (.inr (.inr (.inl (a1, a2, a3, a4, a5, 0, h))))) else (if (h.2.1 (.inl 79) (Int32.toNatClampNeg a6)) ≠ a5 then (Sum.inl (.inr (.inl (a1, a2, a3, a4, a5, (a6 + 1), h)))) else (x_h (f4 a1 (h.2.1 (.inl 77) (Int32.toNatClampNeg a6)) (h.2.1 (.inl 78) (Int32.toNatClampNeg a6)) h) (fun h2 => (Sum.inl (.inr (.inl (a1, a2, a3, a4, a5, (a6 + 1), h2))))))))
  | (.inr (.inr (.inl (a1, a2, a3, a4, a5, a6, h)))) => (if (h.2.1 (.inr (a1, 30)) 0) ≤ a6 then (Sum.inl (.inr (.inr (.inr (.inl (a1, a2, a3, a4, a5, 0, h)))))) else (if (h.2.1 (.inr (a1, 33)) (Int32.toNatClampNeg a6)) ≠ 0 then (Sum.inl (.inr (.inr (.inl (a1, a2, a3, a4, a5, (a6 + 1), h))))) else (x_h (f6 a1 a6 h) (fun h2 => (Sum.inl (.inr (.inr (.inl (a1, a2, a3, a4, a5, (a6 + 1), h2)))))))))
  | (.inr (.inr (.inr (.inl (a1, a2, a3, a4, a5, a6, h))))) => (if (h.2.1 (.inr (a1, 30)) 0) ≤ a6 then (Sum.inl (.inr (.inr (.inr (.inr (a1, a2, a3, a4, a5, 0, h)))))) else (Sum.inl (.inr (.inr (.inr (.inl (a1, a2, a3, (if a4 < (if 0 ≤ ((mx_uI h (.inl 75) (Int32.toNatClampNeg a6) ((h.2.1 (.inl 75) (Int32.toNatClampNeg a6)) + ((h.2.1 (.inl 76) (Int32.toNatClampNeg a6)) / 8))).2.1 (.inl 75) (Int32.toNatClampNeg a6)) then ((mx_uI h (.inl 75) (Int32.toNatClampNeg a6) ((h.2.1 (.inl 75) (Int32.toNatClampNeg a6)) + ((h.2.1 (.inl 76) (Int32.toNatClampNeg a6)) / 8))).2.1 (.inl 75) (Int32.toNatClampNeg a6)) else 0 - ((mx_uI h (.inl 75) (Int32.toNatClampNeg a6) ((h.2.1 (.inl 75) (Int32.toNatClampNeg a6)) + ((h.2.1 (.inl 76) (Int32.toNatClampNeg a6)) / 8))).2.1 (.inl 75) (Int32.toNatClampNeg a6))) then (if 0 ≤ ((mx_uI h (.inl 75) (Int32.toNatClampNeg a6) ((h.2.1 (.inl 75) (Int32.toNatClampNeg a6)) + ((h.2.1 (.inl 76) (Int32.toNatClampNeg a6)) / 8))).2.1 (.inl 75) (Int32.toNatClampNeg a6)) then ((mx_uI h (.inl 75) (Int32.toNatClampNeg a6) ((h.2.1 (.inl 75) (Int32.toNatClampNeg a6)) + ((h.2.1 (.inl 76) (Int32.toNatClampNeg a6)) / 8))).2.1 (.inl 75) (Int32.toNatClampNeg a6)) else 0 - ((mx_uI h (.inl 75) (Int32.toNatClampNeg a6) ((h.2.1 (.inl 75) (Int32.toNatClampNeg a6)) + ((h.2.1 (.inl 76) (Int32.toNatClampNeg a6)) / 8))).2.1 (.inl 75) (Int32.toNatClampNeg a6))) else a4), a5, (a6 + 1), mx_uI h (.inl 75) (Int32.toNatClampNeg a6) ((h.2.1 (.inl 75) (Int32.toNatClampNeg a6)) + ((h.2.1 (.inl 76) (Int32.toNatClampNeg a6)) / 8)))))))))
  | (.inr (.inr (.inr (.inr (a1, a2, a3, a4, a5, a6, h))))) => (if 4 ≤ a6 then (Sum.inl (.inl (a1, a2, a3, a4, (a5 + 1), h))) else (if (h.2.1 (.inl 73) (Int32.toNatClampNeg a6)) < 0 then (Sum.inl (.inr (.inr (.inr (.inr (a1, a2, a3, a4, a5, (a6 + 1), h)))))) else (Sum.inl (.inr (.inr (.inr (.inr (a1, a2, a3, a4, a5, (a6 + 1), mx_uI h (.inl 74) (Int32.toNatClampNeg ((200 * a6) + a5)) (h.2.1 (.inl 75) (Int32.toNatClampNeg (h.2.1 (.inl 73) (Int32.toNatClampNeg a6))))))))))))
noncomputable def g5_11 (a1 : Nat) (a2 : Int32) (a3 : Int32) (a4 : Int32) (a5 : Int32) (h : mx_H) : Int32 × mx_H := ml_wh b5 (.inl (a1, a2, a3, a4, a5, h))
noncomputable def g5_28 (a1 : Nat) (a2 : Int32) (a3 : Int32) (a4 : Int32) (a5 : Int32) (a6 : Int32) (h : mx_H) : Int32 × mx_H := ml_wh b5 (.inr (.inl (a1, a2, a3, a4, a5, a6, h)))
noncomputable def g5_74 (a1 : Nat) (a2 : Int32) (a3 : Int32) (a4 : Int32) (a5 : Int32) (a6 : Int32) (h : mx_H) : Int32 × mx_H := ml_wh b5 (.inr (.inr (.inl (a1, a2, a3, a4, a5, a6, h))))
noncomputable def g5_109 (a1 : Nat) (a2 : Int32) (a3 : Int32) (a4 : Int32) (a5 : Int32) (a6 : Int32) (h : mx_H) : Int32 × mx_H := ml_wh b5 (.inr (.inr (.inr (.inl (a1, a2, a3, a4, a5, a6, h)))))
noncomputable def g5_164 (a1 : Nat) (a2 : Int32) (a3 : Int32) (a4 : Int32) (a5 : Int32) (a6 : Int32) (h : mx_H) : Int32 × mx_H := ml_wh b5 (.inr (.inr (.inr (.inr (a1, a2, a3, a4, a5, a6, h)))))
theorem g5_11_eq (a1 : Nat) (a2 : Int32) (a3 : Int32) (a4 : Int32) (a5 : Int32) (h : mx_H) : g5_11 a1 a2 a3 a4 a5 h = (if a2 ≤ a5 then ((a4 : Int32), h) else (if 200 ≤ a5 then ((a4 : Int32), h) else (g5_28 a1 a2 a3 a4 a5 0 h))) := by
  unfold g5_11
  rw [ml_wh_eq]
  simp only [b5, ml_go_ite, ml_go_l, ml_go_r, ml_go_opt, ml_go_let, ml_go_h, ml_go_val]
  try rfl
theorem g5_28_eq (a1 : Nat) (a2 : Int32) (a3 : Int32) (a4 : Int32) (a5 : Int32) (a6 : Int32) (h : mx_H) : g5_28 a1 a2 a3 a4 a5 a6 h = (if a3 ≤ a6 then (g5_74 a1 a2 a3 a4 a5 0 h) else (if (h.2.1 (.inl 79) (Int32.toNatClampNeg a6)) ≠ a5 then (g5_28 a1 a2 a3 a4 a5 (a6 + 1) h) else (x_h (f4 a1 (h.2.1 (.inl 77) (Int32.toNatClampNeg a6)) (h.2.1 (.inl 78) (Int32.toNatClampNeg a6)) h) (fun h2 => (g5_28 a1 a2 a3 a4 a5 (a6 + 1) h2))))) := by
  unfold g5_28
  rw [ml_wh_eq]
  simp only [b5, ml_go_ite, ml_go_l, ml_go_r, ml_go_opt, ml_go_let, ml_go_h, ml_go_val]
  try rfl
theorem g5_74_eq (a1 : Nat) (a2 : Int32) (a3 : Int32) (a4 : Int32) (a5 : Int32) (a6 : Int32) (h : mx_H) : g5_74 a1 a2 a3 a4 a5 a6 h = (if (h.2.1 (.inr (a1, 30)) 0) ≤ a6 then (g5_109 a1 a2 a3 a4 a5 0 h) else (if (h.2.1 (.inr (a1, 33)) (Int32.toNatClampNeg a6)) ≠ 0 then (g5_74 a1 a2 a3 a4 a5 (a6 + 1) h) else (x_h (f6 a1 a6 h) (fun h2 => (g5_74 a1 a2 a3 a4 a5 (a6 + 1) h2))))) := by
  unfold g5_74
  rw [ml_wh_eq]
  simp only [b5, ml_go_ite, ml_go_l, ml_go_r, ml_go_opt, ml_go_let, ml_go_h, ml_go_val]
  try rfl
theorem g5_109_eq (a1 : Nat) (a2 : Int32) (a3 : Int32) (a4 : Int32) (a5 : Int32) (a6 : Int32) (h : mx_H) : g5_109 a1 a2 a3 a4 a5 a6 h = (if (h.2.1 (.inr (a1, 30)) 0) ≤ a6 then (g5_164 a1 a2 a3 a4 a5 0 h) else (g5_109 a1 a2 a3 (if a4 < (if 0 ≤ ((mx_uI h (.inl 75) (Int32.toNatClampNeg a6) ((h.2.1 (.inl 75) (Int32.toNatClampNeg a6)) + ((h.2.1 (.inl 76) (Int32.toNatClampNeg a6)) / 8))).2.1 (.inl 75) (Int32.toNatClampNeg a6)) then ((mx_uI h (.inl 75) (Int32.toNatClampNeg a6) ((h.2.1 (.inl 75) (Int32.toNatClampNeg a6)) + ((h.2.1 (.inl 76) (Int32.toNatClampNeg a6)) / 8))).2.1 (.inl 75) (Int32.toNatClampNeg a6)) else 0 - ((mx_uI h (.inl 75) (Int32.toNatClampNeg a6) ((h.2.1 (.inl 75) (Int32.toNatClampNeg a6)) + ((h.2.1 (.inl 76) (Int32.toNatClampNeg a6)) / 8))).2.1 (.inl 75) (Int32.toNatClampNeg a6))) then (if 0 ≤ ((mx_uI h (.inl 75) (Int32.toNatClampNeg a6) ((h.2.1 (.inl 75) (Int32.toNatClampNeg a6)) + ((h.2.1 (.inl 76) (Int32.toNatClampNeg a6)) / 8))).2.1 (.inl 75) (Int32.toNatClampNeg a6)) then ((mx_uI h (.inl 75) (Int32.toNatClampNeg a6) ((h.2.1 (.inl 75) (Int32.toNatClampNeg a6)) + ((h.2.1 (.inl 76) (Int32.toNatClampNeg a6)) / 8))).2.1 (.inl 75) (Int32.toNatClampNeg a6)) else 0 - ((mx_uI h (.inl 75) (Int32.toNatClampNeg a6) ((h.2.1 (.inl 75) (Int32.toNatClampNeg a6)) + ((h.2.1 (.inl 76) (Int32.toNatClampNeg a6)) / 8))).2.1 (.inl 75) (Int32.toNatClampNeg a6))) else a4) a5 (a6 + 1) (mx_uI h (.inl 75) (Int32.toNatClampNeg a6) ((h.2.1 (.inl 75) (Int32.toNatClampNeg a6)) + ((h.2.1 (.inl 76) (Int32.toNatClampNeg a6)) / 8))))) := by
  unfold g5_109
  rw [ml_wh_eq]
  simp only [b5, ml_go_ite, ml_go_l, ml_go_r, ml_go_opt, ml_go_let, ml_go_h, ml_go_val]
  try rfl
theorem g5_164_eq (a1 : Nat) (a2 : Int32) (a3 : Int32) (a4 : Int32) (a5 : Int32) (a6 : Int32) (h : mx_H) : g5_164 a1 a2 a3 a4 a5 a6 h = (if 4 ≤ a6 then (g5_11 a1 a2 a3 a4 (a5 + 1) h) else (if (h.2.1 (.inl 73) (Int32.toNatClampNeg a6)) < 0 then (g5_164 a1 a2 a3 a4 a5 (a6 + 1) h) else (g5_164 a1 a2 a3 a4 a5 (a6 + 1) (mx_uI h (.inl 74) (Int32.toNatClampNeg ((200 * a6) + a5)) (h.2.1 (.inl 75) (Int32.toNatClampNeg (h.2.1 (.inl 73) (Int32.toNatClampNeg a6)))))))) := by
  unfold g5_164
  rw [ml_wh_eq]
  simp only [b5, ml_go_ite, ml_go_l, ml_go_r, ml_go_opt, ml_go_let, ml_go_h, ml_go_val]
  try rfl
noncomputable def f5 (a1 : Nat) (a2 : Int32) (a3 : Int32) (h : mx_H) : Int32 × mx_H := x_box (g5_11 a1 a2 a3 0 0 (mx_uI h (.inl 71) 2 a2))
theorem f5_eq (a1 : Nat) (a2 : Int32) (a3 : Int32) (h : mx_H) : f5 a1 a2 a3 h = (g5_11 a1 a2 a3 0 0 (mx_uI h (.inl 71) 2 a2)) := x_box_eq _
theorem xw5 {E : mx_Ev} {Q : Option mx_V → mx_H → Prop} : ∀ n : Nat, (∀ (a1 : Nat) (a2 : Int32) (a3 : Int32) (a4 : Int32) (a5 : Int32) (h : mx_H), (xK_i Q) (g5_11 a1 a2 a3 a4 a5 h) → mx_L E n 5 11 [(0, .inr (.inl 71)), (1, .inr (.inr (a1, 30))), (2, .inl (.int a2)), (3, .inl (.int a3)), (4, .inl (.int a4)), (5, .inl (.int a5))] [] h Q) ∧ (∀ (a1 : Nat) (a2 : Int32) (a3 : Int32) (a4 : Int32) (a5 : Int32) (a6 : Int32) (h : mx_H), (xK_i Q) (g5_28 a1 a2 a3 a4 a5 a6 h) → mx_L E n 5 28 [(0, .inr (.inl 71)), (1, .inr (.inr (a1, 30))), (2, .inl (.int a2)), (3, .inl (.int a3)), (4, .inl (.int a4)), (5, .inl (.int a5)), (6, .inl (.int a6))] [] h Q) ∧ (∀ (a1 : Nat) (a2 : Int32) (a3 : Int32) (a4 : Int32) (a5 : Int32) (a6 : Int32) (h : mx_H), (xK_i Q) (g5_74 a1 a2 a3 a4 a5 a6 h) → mx_L E n 5 74 [(0, .inr (.inl 71)), (1, .inr (.inr (a1, 30))), (2, .inl (.int a2)), (3, .inl (.int a3)), (4, .inl (.int a4)), (5, .inl (.int a5)), (6, .inl (.int a6))] [] h Q) ∧ (∀ (a1 : Nat) (a2 : Int32) (a3 : Int32) (a4 : Int32) (a5 : Int32) (a6 : Int32) (h : mx_H), (xK_i Q) (g5_109 a1 a2 a3 a4 a5 a6 h) → mx_L E n 5 109 [(0, .inr (.inl 71)), (1, .inr (.inr (a1, 30))), (2, .inl (.int a2)), (3, .inl (.int a3)), (4, .inl (.int a4)), (5, .inl (.int a5)), (6, .inl (.int a6))] [] h Q) ∧ (∀ (a1 : Nat) (a2 : Int32) (a3 : Int32) (a4 : Int32) (a5 : Int32) (a6 : Int32) (h : mx_H), (xK_i Q) (g5_164 a1 a2 a3 a4 a5 a6 h) → mx_L E n 5 164 [(0, .inr (.inl 71)), (1, .inr (.inr (a1, 30))), (2, .inl (.int a2)), (3, .inl (.int a3)), (4, .inl (.int a4)), (5, .inl (.int a5)), (6, .inl (.int a6))] [] h Q)
  | 0 => ⟨fun _ _ _ _ _ _ _ => mx_L.zero, fun _ _ _ _ _ _ _ _ => mx_L.zero, fun _ _ _ _ _ _ _ _ => mx_L.zero, fun _ _ _ _ _ _ _ _ => mx_L.zero, fun _ _ _ _ _ _ _ _ => mx_L.zero⟩
  | n + 1 => ⟨fun a1 a2 a3 a4 a5 h hK => sl5_11 (x_use (x_eq (K := (xK_i Q)) (g5_11_eq a1 a2 a3 a4 a5 h) hK) (fun hK => (x_ite hK (fun hK => hK) (fun hK => (x_ite hK (fun hK => hK) (fun hK => ((xw5 n).2.1 _ _ _ _ _ _ _ hK))))))), fun a1 a2 a3 a4 a5 a6 h hK => sl5_28 (x_use (x_eq (K := (xK_i Q)) (g5_28_eq a1 a2 a3 a4 a5 a6 h) hK) (fun hK => (x_ite hK (fun hK => ((xw5 n).2.2.1 _ _ _ _ _ _ _ hK)) (fun hK => (fun _ => (x_ite hK (fun hK => ((xw5 n).2.1 _ _ _ _ _ _ _ hK)) (fun hK => (fun _ => (fun _ => (x4 (xh_n (x_hk hK (fun hK => ((xw5 n).2.1 _ _ _ _ _ _ _ hK)))))))))))))), fun a1 a2 a3 a4 a5 a6 h hK => sl5_74 (x_use (x_eq (K := (xK_i Q)) (g5_74_eq a1 a2 a3 a4 a5 a6 h) hK) (fun hK => (x_ite hK (fun hK => ((xw5 n).2.2.2.1 _ _ _ _ _ _ _ hK)) (fun hK => (fun _ => (x_ite hK (fun hK => ((xw5 n).2.2.1 _ _ _ _ _ _ _ hK)) (fun hK => (x6 (xh_n (x_hk hK (fun hK => ((xw5 n).2.2.1 _ _ _ _ _ _ _ hK)))))))))))), fun a1 a2 a3 a4 a5 a6 h hK => sl5_109 (x_use (x_eq (K := (xK_i Q)) (g5_109_eq a1 a2 a3 a4 a5 a6 h) hK) (fun hK => (x_ite hK (fun hK => ((xw5 n).2.2.2.2 _ _ _ _ _ _ _ hK)) (fun hK => (fun _ => (fun _ => (fun _ => (fun _ => (fun _ => ((xw5 n).2.2.2.1 _ _ _ _ _ _ _ hK)))))))))), fun a1 a2 a3 a4 a5 a6 h hK => sl5_164 (x_use (x_eq (K := (xK_i Q)) (g5_164_eq a1 a2 a3 a4 a5 a6 h) hK) (fun hK => (x_ite hK (fun hK => ((xw5 n).1 _ _ _ _ _ _ hK)) (fun hK => (fun _ => (x_ite hK (fun hK => ((xw5 n).2.2.2.2 _ _ _ _ _ _ _ hK)) (fun hK => (fun _ => (fun _ => (fun _ => ((xw5 n).2.2.2.2 _ _ _ _ _ _ _ hK)))))))))))⟩
theorem x5 {E : mx_Ev} {n : Nat} {h : mx_H} {Q : Option mx_V → mx_H → Prop} {a1 : Nat} {a2 : Int32} {a3 : Int32} (hK : (xK_i Q) (f5 a1 a2 a3 h)) : mx_M E n 5 [.inr (.inl 71), .inr (.inr (a1, 30)), .inl (.int a2), .inl (.int a3)] h Q := by
  cases n with
  | zero => exact mx_L.zero
  | succ n => exact sl5_0 (x_use (x_eq (K := (xK_i Q)) (f5_eq a1 a2 a3 h) hK) (fun hK => ((xw5 n).1 _ _ _ _ _ _ hK)))
noncomputable def f7 (a1 : Int32) (h : mx_H) : Int32 := x_box (if (h.2.1 (.inl 71) 2) ≤ 0 then (0 : Int32) else (if (h.2.1 (.inl 73) (Int32.toNatClampNeg a1)) < 0 then (0 : Int32) else (1 : Int32)))
theorem f7_eq (a1 : Int32) (h : mx_H) : f7 a1 h = (if (h.2.1 (.inl 71) 2) ≤ 0 then (0 : Int32) else (if (h.2.1 (.inl 73) (Int32.toNatClampNeg a1)) < 0 then (0 : Int32) else (1 : Int32))) := x_box_eq _
theorem x7 {E : mx_Ev} {n : Nat} {h : mx_H} {Q : Option mx_V → mx_H → Prop} {a1 : Int32} (hK : (xK_ip Q h) (f7 a1 h)) : mx_M E n 7 [.inr (.inl 71), .inl (.int a1)] h Q := by
  cases n with
  | zero => exact mx_L.zero
  | succ n => exact sl7_0 (x_use (x_eq (K := (xK_ip Q h)) (f7_eq a1 h) hK) (fun hK => (x_ite hK (fun hK => (fun _ => hK)) (fun hK => (fun _ => (x_ite hK (fun hK => (fun _ => hK)) (fun hK => (fun _ => hK))))))))
noncomputable def f8 (a1 : Int32) (a2 : Int32) (h : mx_H) : Int32 := x_box (h.2.1 (.inl 74) (Int32.toNatClampNeg (((200 * a1) + a2) - 1)) : Int32)
theorem f8_eq (a1 : Int32) (a2 : Int32) (h : mx_H) : f8 a1 a2 h = (h.2.1 (.inl 74) (Int32.toNatClampNeg (((200 * a1) + a2) - 1)) : Int32) := x_box_eq _
theorem x8 {E : mx_Ev} {n : Nat} {h : mx_H} {Q : Option mx_V → mx_H → Prop} {a1 : Int32} {a2 : Int32} (hK : (xK_ip Q h) (f8 a1 a2 h)) : mx_M E n 8 [.inr (.inl 71), .inl (.int a1), .inl (.int a2)] h Q := by
  cases n with
  | zero => exact mx_L.zero
  | succ n => exact sl8_0 (x_use (x_eq (K := (xK_ip Q h)) (f8_eq a1 a2 h) hK) (fun hK => (fun _ => hK)))
noncomputable def b9 : ((Int32 × Int32 × Int32 × mx_H)) → ((Int32 × Int32 × Int32 × mx_H)) ⊕ (Int32)
  | (a1, a2, a3, h) => (if (h.2.1 (.inl 71) 2) < a3 then (Sum.inr (a2 : Int32)) else (x_val (f8 a1 a3 h) (fun x3 => (Sum.inl (a1, (if a2 < (if 0 ≤ x3 then x3 else 0 - x3) then (if 0 ≤ x3 then x3 else 0 - x3) else a2), (a3 + 1), h)))))
noncomputable def g9_4 (a1 : Int32) (a2 : Int32) (a3 : Int32) (h : mx_H) : Int32 := ml_wh b9 (a1, a2, a3, h)
theorem g9_4_eq (a1 : Int32) (a2 : Int32) (a3 : Int32) (h : mx_H) : g9_4 a1 a2 a3 h = (if (h.2.1 (.inl 71) 2) < a3 then (a2 : Int32) else (x_val (f8 a1 a3 h) (fun x3 => (g9_4 a1 (if a2 < (if 0 ≤ x3 then x3 else 0 - x3) then (if 0 ≤ x3 then x3 else 0 - x3) else a2) (a3 + 1) h)))) := by
  unfold g9_4
  rw [ml_wh_eq]
  simp only [b9, ml_go_ite, ml_go_l, ml_go_r, ml_go_opt, ml_go_let, ml_go_h, ml_go_val]
  try rfl
noncomputable def f9 (a1 : Int32) (h : mx_H) : Int32 := x_box (g9_4 a1 0 1 h)
theorem f9_eq (a1 : Int32) (h : mx_H) : f9 a1 h = (g9_4 a1 0 1 h) := x_box_eq _
theorem xw9 {E : mx_Ev} {Q : Option mx_V → mx_H → Prop} : ∀ n : Nat, (∀ (a1 : Int32) (a2 : Int32) (a3 : Int32) (h : mx_H), (xK_ip Q h) (g9_4 a1 a2 a3 h) → mx_L E n 9 4 [(0, .inr (.inl 71)), (1, .inl (.int a1)), (2, .inl (.int a2)), (3, .inl (.int a3))] [] h Q)
  | 0 => fun _ _ _ _ _ => mx_L.zero
  | n + 1 => fun a1 a2 a3 h hK => sl9_4 (x_use (x_eq (K := (xK_ip Q h)) (g9_4_eq a1 a2 a3 h) hK) (fun hK => (x_ite hK (fun hK => hK) (fun hK => (x8 (xh_i (x_valk hK (fun hK => ((xw9 n) _ _ _ _ hK)))))))))
theorem x9 {E : mx_Ev} {n : Nat} {h : mx_H} {Q : Option mx_V → mx_H → Prop} {a1 : Int32} (hK : (xK_ip Q h) (f9 a1 h)) : mx_M E n 9 [.inr (.inl 71), .inl (.int a1)] h Q := by
  cases n with
  | zero => exact mx_L.zero
  | succ n => exact sl9_0 (x_use (x_eq (K := (xK_ip Q h)) (f9_eq a1 h) hK) (fun hK => ((xw9 n) _ _ _ _ hK)))
noncomputable def b10 : ((Int32 × Int32 × Int32 × Int32 × mx_H)) → ((Int32 × Int32 × Int32 × Int32 × mx_H)) ⊕ (Int32)
  | (a1, a2, a3, a4, h) => (if a4 ≤ 0 then (Sum.inr (a3 : Int32)) else (x_val (f8 a1 a4 h) (fun x3 => (if a2 < (if 0 ≤ x3 then x3 else 0 - x3) then (Sum.inr (a3 : Int32)) else (Sum.inl (a1, a2, a4, (a4 + (-1)), h))))))
noncomputable def g10_11 (a1 : Int32) (a2 : Int32) (a3 : Int32) (a4 : Int32) (h : mx_H) : Int32 := ml_wh b10 (a1, a2, a3, a4, h)
theorem g10_11_eq (a1 : Int32) (a2 : Int32) (a3 : Int32) (a4 : Int32) (h : mx_H) : g10_11 a1 a2 a3 a4 h = (if a4 ≤ 0 then (a3 : Int32) else (x_val (f8 a1 a4 h) (fun x3 => (if a2 < (if 0 ≤ x3 then x3 else 0 - x3) then (a3 : Int32) else (g10_11 a1 a2 a4 (a4 + (-1)) h))))) := by
  unfold g10_11
  rw [ml_wh_eq]
  simp only [b10, ml_go_ite, ml_go_l, ml_go_r, ml_go_opt, ml_go_let, ml_go_h, ml_go_val]
  try rfl
noncomputable def f10 (a1 : Int32) (a2 : Int32) (h : mx_H) : Int32 := x_box (g10_11 a1 a2 (h.2.1 (.inl 71) 2) (h.2.1 (.inl 71) 2) h)
theorem f10_eq (a1 : Int32) (a2 : Int32) (h : mx_H) : f10 a1 a2 h = (g10_11 a1 a2 (h.2.1 (.inl 71) 2) (h.2.1 (.inl 71) 2) h) := x_box_eq _
theorem xw10 {E : mx_Ev} {Q : Option mx_V → mx_H → Prop} : ∀ n : Nat, (∀ (a1 : Int32) (a2 : Int32) (a3 : Int32) (a4 : Int32) (h : mx_H), (xK_ip Q h) (g10_11 a1 a2 a3 a4 h) → mx_L E n 10 11 [(0, .inr (.inl 71)), (1, .inl (.int a1)), (2, .inl (.int a2)), (3, .inl (.int a3)), (4, .inl (.int a4))] [] h Q)
  | 0 => fun _ _ _ _ _ _ => mx_L.zero
  | n + 1 => fun a1 a2 a3 a4 h hK => sl10_11 (x_use (x_eq (K := (xK_ip Q h)) (g10_11_eq a1 a2 a3 a4 h) hK) (fun hK => (x_ite hK (fun hK => hK) (fun hK => (x8 (xh_i (x_valk hK (fun hK => (x_ite hK (fun hK => hK) (fun hK => ((xw10 n) _ _ _ _ _ hK)))))))))))
theorem x10 {E : mx_Ev} {n : Nat} {h : mx_H} {Q : Option mx_V → mx_H → Prop} {a1 : Int32} {a2 : Int32} (hK : (xK_ip Q h) (f10 a1 a2 h)) : mx_M E n 10 [.inr (.inl 71), .inl (.int a1), .inl (.int a2)] h Q := by
  cases n with
  | zero => exact mx_L.zero
  | succ n => exact sl10_0 (x_use (x_eq (K := (xK_ip Q h)) (f10_eq a1 a2 h) hK) (fun hK => ((xw10 n) _ _ _ _ _ hK)))
noncomputable def f12 (a1 : Int32) (h : mx_H) : mx_H := x_box (if (h.2.1 (.inl 68) 0) < 6 then (mx_uI (mx_uI h (.inl 69) (Int32.toNatClampNeg (h.2.1 (.inl 68) 0)) a1) (.inl 68) 0 (((mx_uI h (.inl 69) (Int32.toNatClampNeg (h.2.1 (.inl 68) 0)) a1).2.1 (.inl 68) 0) + 1)) else h)
theorem f12_eq (a1 : Int32) (h : mx_H) : f12 a1 h = (if (h.2.1 (.inl 68) 0) < 6 then (mx_uI (mx_uI h (.inl 69) (Int32.toNatClampNeg (h.2.1 (.inl 68) 0)) a1) (.inl 68) 0 (((mx_uI h (.inl 69) (Int32.toNatClampNeg (h.2.1 (.inl 68) 0)) a1).2.1 (.inl 68) 0) + 1)) else h) := x_box_eq _
theorem x12 {E : mx_Ev} {n : Nat} {h : mx_H} {Q : Option mx_V → mx_H → Prop} {a1 : Int32} (hK : (xK_v Q) (f12 a1 h)) : mx_M E n 12 [.inr (.inl 68), .inl (.int a1)] h Q := by
  cases n with
  | zero => exact mx_L.zero
  | succ n => exact sl12_0 (x_use (x_eq (K := (xK_v Q)) (f12_eq a1 h) hK) (fun hK => (x_ite hK (fun hK => (fun _ => hK)) (fun hK => hK))))
noncomputable def f24 (a0 : Int32) : Int32 := x_box (if 1 < (if a0 < 9 then a0 else 9) then (if a0 < 9 then a0 else 9) else 1 : Int32)
theorem f24_eq (a0 : Int32) : f24 a0 = (if 1 < (if a0 < 9 then a0 else 9) then (if a0 < 9 then a0 else 9) else 1 : Int32) := x_box_eq _
theorem x24 {E : mx_Ev} {n : Nat} {h : mx_H} {Q : Option mx_V → mx_H → Prop} {a0 : Int32} (hK : (xK_ip Q h) (f24 a0)) : mx_M E n 24 [.inl (.int a0)] h Q := by
  cases n with
  | zero => exact mx_L.zero
  | succ n => exact sl24_0 (x_use (x_eq (K := (xK_ip Q h)) (f24_eq a0) hK) (fun hK => hK))
noncomputable def f25 (t0 : Nat) (a1 : Int32) (a2 : Int32) (a3 : Int32) (h : mx_H) : mx_H := x_box (mx_uI h (.inr (t0, 31)) (Int32.toNatClampNeg a1) (if (a2 + a3) < 9 then (a2 + a3) else 9))
theorem f25_eq (t0 : Nat) (a1 : Int32) (a2 : Int32) (a3 : Int32) (h : mx_H) : f25 t0 a1 a2 a3 h = (mx_uI h (.inr (t0, 31)) (Int32.toNatClampNeg a1) (if (a2 + a3) < 9 then (a2 + a3) else 9)) := x_box_eq _
theorem x25 {E : mx_Ev} {n : Nat} {h : mx_H} {Q : Option mx_V → mx_H → Prop} {t0 : Nat} {a1 : Int32} {a2 : Int32} {a3 : Int32} (hK : (xK_v Q) (f25 t0 a1 a2 a3 h)) : mx_M E n 25 [.inr (.inr (t0, 30)), .inl (.int a1), .inl (.int a2), .inl (.int a3)] h Q := by
  cases n with
  | zero => exact mx_L.zero
  | succ n => exact sl25_0 (x_use (x_eq (K := (xK_v Q)) (f25_eq t0 a1 a2 a3 h) hK) (fun hK => (fun _ => hK)))
noncomputable def f26 (t0 : Nat) (a1 : Int32) (a2 : Int32) (a3 : Int32) (h : mx_H) : mx_H := x_box (mx_uI (mx_uI h (.inr (t0, 34)) (Int32.toNatClampNeg ((6 * a1) + a2)) a3) (.inr (t0, 34)) (Int32.toNatClampNeg ((6 * a2) + a1)) a3)
theorem f26_eq (t0 : Nat) (a1 : Int32) (a2 : Int32) (a3 : Int32) (h : mx_H) : f26 t0 a1 a2 a3 h = (mx_uI (mx_uI h (.inr (t0, 34)) (Int32.toNatClampNeg ((6 * a1) + a2)) a3) (.inr (t0, 34)) (Int32.toNatClampNeg ((6 * a2) + a1)) a3) := x_box_eq _
theorem x26 {E : mx_Ev} {n : Nat} {h : mx_H} {Q : Option mx_V → mx_H → Prop} {t0 : Nat} {a1 : Int32} {a2 : Int32} {a3 : Int32} (hK : (xK_v Q) (f26 t0 a1 a2 a3 h)) : mx_M E n 26 [.inr (.inr (t0, 30)), .inl (.int a1), .inl (.int a2), .inl (.int a3)] h Q := by
  cases n with
  | zero => exact mx_L.zero
  | succ n => exact sl26_0 (x_use (x_eq (K := (xK_v Q)) (f26_eq t0 a1 a2 a3 h) hK) (fun hK => (fun _ => (fun _ => hK))))
noncomputable def b23 : ((Nat × Nat × Int32 × Int32 × mx_H) ⊕ (Nat × Nat × Int32 × Int32 × mx_H)) → ((Nat × Nat × Int32 × Int32 × mx_H) ⊕ (Nat × Nat × Int32 × Int32 × mx_H)) ⊕ (mx_H)
  | (.inl (a0, a1, a2, a3, h)) => (if (h.2.1 (.inr (a0, 30)) 0) ≤ a3 then (Sum.inl (.inr (a0, a1, a2, 0, h))) else (x_h (f25 a0 a3 (f24 ((h.2.1 (.inr (a1, 1)) (Int32.toNatClampNeg a3)) - a2)) (h.2.1 (.inr (a1, 3)) (Int32.toNatClampNeg a3)) h) (fun h5 => (Sum.inl (.inl (a0, a1, a2, (a3 + 1), mx_uI (mx_uI h5 (.inr (a0, 32)) (Int32.toNatClampNeg a3) (h5.2.1 (.inr (a1, 2)) (Int32.toNatClampNeg a3))) (.inr (a0, 33)) (Int32.toNatClampNeg a3) ((mx_uI h5 (.inr (a0, 32)) (Int32.toNatClampNeg a3) (h5.2.1 (.inr (a1, 2)) (Int32.toNatClampNeg a3))).2.1 (.inr (a1, 4)) (Int32.toNatClampNeg a3))))))))
  | (.inr (a0, a1, a2, a3, h)) => (if (h.2.1 (.inr (a1, 0)) 6) ≤ a3 then (Sum.inr h) else (x_val (f24 ((h.2.1 (.inr (a1, 7)) (Int32.toNatClampNeg a3)) + a2)) (fun x3 => (x_h (f26 a0 (h.2.1 (.inr (a1, 5)) (Int32.toNatClampNeg a3)) (h.2.1 (.inr (a1, 6)) (Int32.toNatClampNeg a3)) (x3 - (if x3 < (h.2.1 (.inr (a1, 8)) (Int32.toNatClampNeg a3)) then x3 else (h.2.1 (.inr (a1, 8)) (Int32.toNatClampNeg a3)))) h) (fun h5 => (Sum.inl (.inr (a0, a1, a2, (a3 + 1), h5))))))))
noncomputable def g23_18 (a0 : Nat) (a1 : Nat) (a2 : Int32) (a3 : Int32) (h : mx_H) : mx_H := ml_wh b23 (.inl (a0, a1, a2, a3, h))
noncomputable def g23_80 (a0 : Nat) (a1 : Nat) (a2 : Int32) (a3 : Int32) (h : mx_H) : mx_H := ml_wh b23 (.inr (a0, a1, a2, a3, h))
theorem g23_18_eq (a0 : Nat) (a1 : Nat) (a2 : Int32) (a3 : Int32) (h : mx_H) : g23_18 a0 a1 a2 a3 h = (if (h.2.1 (.inr (a0, 30)) 0) ≤ a3 then (g23_80 a0 a1 a2 0 h) else (x_h (f25 a0 a3 (f24 ((h.2.1 (.inr (a1, 1)) (Int32.toNatClampNeg a3)) - a2)) (h.2.1 (.inr (a1, 3)) (Int32.toNatClampNeg a3)) h) (fun h5 => (g23_18 a0 a1 a2 (a3 + 1) (mx_uI (mx_uI h5 (.inr (a0, 32)) (Int32.toNatClampNeg a3) (h5.2.1 (.inr (a1, 2)) (Int32.toNatClampNeg a3))) (.inr (a0, 33)) (Int32.toNatClampNeg a3) ((mx_uI h5 (.inr (a0, 32)) (Int32.toNatClampNeg a3) (h5.2.1 (.inr (a1, 2)) (Int32.toNatClampNeg a3))).2.1 (.inr (a1, 4)) (Int32.toNatClampNeg a3))))))) := by
  unfold g23_18
  rw [ml_wh_eq]
  simp only [b23, ml_go_ite, ml_go_l, ml_go_r, ml_go_opt, ml_go_let, ml_go_h, ml_go_val]
  try rfl
theorem g23_80_eq (a0 : Nat) (a1 : Nat) (a2 : Int32) (a3 : Int32) (h : mx_H) : g23_80 a0 a1 a2 a3 h = (if (h.2.1 (.inr (a1, 0)) 6) ≤ a3 then h else (x_val (f24 ((h.2.1 (.inr (a1, 7)) (Int32.toNatClampNeg a3)) + a2)) (fun x3 => (x_h (f26 a0 (h.2.1 (.inr (a1, 5)) (Int32.toNatClampNeg a3)) (h.2.1 (.inr (a1, 6)) (Int32.toNatClampNeg a3)) (x3 - (if x3 < (h.2.1 (.inr (a1, 8)) (Int32.toNatClampNeg a3)) then x3 else (h.2.1 (.inr (a1, 8)) (Int32.toNatClampNeg a3)))) h) (fun h5 => (g23_80 a0 a1 a2 (a3 + 1) h5)))))) := by
  unfold g23_80
  rw [ml_wh_eq]
  simp only [b23, ml_go_ite, ml_go_l, ml_go_r, ml_go_opt, ml_go_let, ml_go_h, ml_go_val]
  try rfl
noncomputable def f23 (t0 : Nat) (a1 : Nat) (a2 : Int32) (h : mx_H) : mx_H := x_box (x_h (f317 (.inr (t0, 34)) 0 (mx_uI h (.inr (t0, 30)) 0 (h.2.1 (.inr (a1, 0)) 0))) (fun h2 => (g23_18 t0 a1 a2 0 h2)))
theorem f23_eq (t0 : Nat) (a1 : Nat) (a2 : Int32) (h : mx_H) : f23 t0 a1 a2 h = (x_h (f317 (.inr (t0, 34)) 0 (mx_uI h (.inr (t0, 30)) 0 (h.2.1 (.inr (a1, 0)) 0))) (fun h2 => (g23_18 t0 a1 a2 0 h2))) := x_box_eq _
theorem xw23 {E : mx_Ev} {Q : Option mx_V → mx_H → Prop} : ∀ n : Nat, (∀ (a0 : Nat) (a1 : Nat) (a2 : Int32) (a3 : Int32) (h : mx_H), (xK_v Q) (g23_18 a0 a1 a2 a3 h) → mx_L E n 23 18 [(0, .inr (.inr (a0, 30))), (1, .inr (.inr (a1, 0))), (2, .inl (.int a2)), (3, .inl (.int a3))] [] h Q) ∧ (∀ (a0 : Nat) (a1 : Nat) (a2 : Int32) (a3 : Int32) (h : mx_H), (xK_v Q) (g23_80 a0 a1 a2 a3 h) → mx_L E n 23 80 [(0, .inr (.inr (a0, 30))), (1, .inr (.inr (a1, 0))), (2, .inl (.int a2)), (3, .inl (.int a3))] [] h Q)
  | 0 => ⟨fun _ _ _ _ _ _ => mx_L.zero, fun _ _ _ _ _ _ => mx_L.zero⟩
  | n + 1 => ⟨fun a0 a1 a2 a3 h hK => sl23_18 (x_use (x_eq (K := (xK_v Q)) (g23_18_eq a0 a1 a2 a3 h) hK) (fun hK => (x_ite hK (fun hK => ((xw23 n).2 _ _ _ _ _ hK)) (fun hK => (fun _ => (x24 (xh_i (fun _ => (x25 (xh_n (x_hk hK (fun hK => (fun _ => (fun _ => (fun _ => (fun _ => ((xw23 n).1 _ _ _ _ _ hK))))))))))))))))), fun a0 a1 a2 a3 h hK => sl23_80 (x_use (x_eq (K := (xK_v Q)) (g23_80_eq a0 a1 a2 a3 h) hK) (fun hK => (x_ite hK (fun hK => hK) (fun hK => (fun _ => (x24 (xh_i (x_valk hK (fun hK => (fun _ => (fun _ => (fun _ => (x26 (xh_n (x_hk hK (fun hK => ((xw23 n).2 _ _ _ _ _ hK)))))))))))))))))⟩
theorem x23 {E : mx_Ev} {n : Nat} {h : mx_H} {Q : Option mx_V → mx_H → Prop} {t0 : Nat} {a1 : Nat} {a2 : Int32} (hK : (xK_v Q) (f23 t0 a1 a2 h)) : mx_M E n 23 [.inr (.inr (t0, 30)), .inr (.inr (a1, 0)), .inl (.int a2)] h Q := by
  cases n with
  | zero => exact mx_L.zero
  | succ n => exact sl23_0 (x_use (x_eq (K := (xK_v Q)) (f23_eq t0 a1 a2 h) hK) (fun hK => (x317 (xh_n (x_hk hK (fun hK => ((xw23 n).1 _ _ _ _ _ hK)))))))
noncomputable def f22 (t0 : Nat) (a1 : Nat) (h : mx_H) : mx_H := x_box (x_h (f23 t0 a1 0 h) (fun h2 => h2))
theorem f22_eq (t0 : Nat) (a1 : Nat) (h : mx_H) : f22 t0 a1 h = (x_h (f23 t0 a1 0 h) (fun h2 => h2)) := x_box_eq _
theorem x22 {E : mx_Ev} {n : Nat} {h : mx_H} {Q : Option mx_V → mx_H → Prop} {t0 : Nat} {a1 : Nat} (hK : (xK_v Q) (f22 t0 a1 h)) : mx_M E n 22 [.inr (.inr (t0, 30)), .inr (.inr (a1, 0))] h Q := by
  cases n with
  | zero => exact mx_L.zero
  | succ n => exact sl22_0 (x_use (x_eq (K := (xK_v Q)) (f22_eq t0 a1 h) hK) (fun hK => (x23 (xh_n (x_hk hK (fun hK => hK))))))
noncomputable def b60 : ((Nat × Int32 × Int32 × mx_H)) → ((Nat × Int32 × Int32 × mx_H)) ⊕ (Int32)
  | (a0, a1, a2, h) => (if (h.2.1 (.inr (a0, 0)) 0) ≤ a2 then (Sum.inr (a1 : Int32)) else (if (h.2.1 (.inr (a0, 4)) (Int32.toNatClampNeg a2)) ≠ 0 then (Sum.inl (a0, a1, (a2 + 1), h)) else (Sum.inl (a0, (a1 + 1), (a2 + 1), h))))
noncomputable def g60_4 (a0 : Nat) (a1 : Int32) (a2 : Int32) (h : mx_H) : Int32 := ml_wh b60 (a0, a1, a2, h)
theorem g60_4_eq (a0 : Nat) (a1 : Int32) (a2 : Int32) (h : mx_H) : g60_4 a0 a1 a2 h = (if (h.2.1 (.inr (a0, 0)) 0) ≤ a2 then (a1 : Int32) else (if (h.2.1 (.inr (a0, 4)) (Int32.toNatClampNeg a2)) ≠ 0 then (g60_4 a0 a1 (a2 + 1) h) else (g60_4 a0 (a1 + 1) (a2 + 1) h))) := by
  unfold g60_4
  rw [ml_wh_eq]
  simp only [b60, ml_go_ite, ml_go_l, ml_go_r, ml_go_opt, ml_go_let, ml_go_h, ml_go_val]
  try rfl
noncomputable def f60 (t0 : Nat) (h : mx_H) : Int32 := x_box (g60_4 t0 0 0 h)
theorem f60_eq (t0 : Nat) (h : mx_H) : f60 t0 h = (g60_4 t0 0 0 h) := x_box_eq _
theorem xw60 {E : mx_Ev} {Q : Option mx_V → mx_H → Prop} : ∀ n : Nat, (∀ (a0 : Nat) (a1 : Int32) (a2 : Int32) (h : mx_H), (xK_ip Q h) (g60_4 a0 a1 a2 h) → mx_L E n 60 4 [(0, .inr (.inr (a0, 0))), (1, .inl (.int a1)), (2, .inl (.int a2))] [] h Q)
  | 0 => fun _ _ _ _ _ => mx_L.zero
  | n + 1 => fun a0 a1 a2 h hK => sl60_4 (x_use (x_eq (K := (xK_ip Q h)) (g60_4_eq a0 a1 a2 h) hK) (fun hK => (x_ite hK (fun hK => hK) (fun hK => (fun _ => (x_ite hK (fun hK => ((xw60 n) _ _ _ _ hK)) (fun hK => ((xw60 n) _ _ _ _ hK))))))))
theorem x60 {E : mx_Ev} {n : Nat} {h : mx_H} {Q : Option mx_V → mx_H → Prop} {t0 : Nat} (hK : (xK_ip Q h) (f60 t0 h)) : mx_M E n 60 [.inr (.inr (t0, 0))] h Q := by
  cases n with
  | zero => exact mx_L.zero
  | succ n => exact sl60_0 (x_use (x_eq (K := (xK_ip Q h)) (f60_eq t0 h) hK) (fun hK => ((xw60 n) _ _ _ _ hK)))
noncomputable def b28 : ((Nat × Int32 × Int32 × Int32 × mx_H) ⊕ (Nat × Int32 × Int32 × Int32 × Int32 × Int32 × mx_H) ⊕ (Nat × Int32 × Int32 × Int32 × Int32 × Int32 × mx_H)) → ((Nat × Int32 × Int32 × Int32 × mx_H) ⊕ (Nat × Int32 × Int32 × Int32 × Int32 × Int32 × mx_H) ⊕ (Nat × Int32 × Int32 × Int32 × Int32 × Int32 × mx_H)) ⊕ (mx_H)
  | (.inl (a0, a1, a2, a3, h)) => (if (h.2.1 (.inr (a0, 30)) 0) ≤ a3 then (Sum.inr h) else (if (h.2.1 (.inr (a0, 33)) (Int32.toNatClampNeg a3)) = 0 then (Sum.inl (.inr (.inl (a0, a1, a2, a3, ((mx_uI h (.inr (a0, 36)) (Int32.toNatClampNeg (h.2.1 (.inr (a0, 30)) 7)) a3).2.1 (.inr (a0, 32)) (Int32.toNatClampNeg a3)), 0, mx_uI h (.inr (a0, 36)) (Int32.toNatClampNeg (h.2.1 (.inr (a0, 30)) 7)) a3)))) else (Sum.inl (.inl (a0, a1, a2, (a3 + 1), h)))))
  | (.inr (.inl (a0, a1, a2, a3, a4, a5, h))) => (if (h.2.1 (.inr (a0, 30)) 0) ≤ a5 then (Sum.inl (.inr (.inr (a0, a1, a2, a3, a4, 0, h)))) else (Sum.inl (.inr (.inl (a0, a1, a2, a3, (a4 + (h.2.1 (.inr (a0, 34)) (Int32.toNatClampNeg ((6 * a3) + a5)))), (a5 + 1), h)))))
  | (.inr (.inr (a0, a1, a2, a3, a4, a5, h))) => (if (h.2.1 (.inr (a0, 30)) 7) ≤ a5 then (Sum.inl (.inl (a0, a1, a2, (a3 + 1), mx_uI (mx_uL h (.inr (a0, 37)) (Int32.toNatClampNeg ((6 * (h.2.1 (.inr (a0, 30)) 7)) + (h.2.1 (.inr (a0, 30)) 7))) (Int32.toInt64 ((a2 * a4) - (a1 * (h.2.1 (.inr (a0, 31)) (Int32.toNatClampNeg a3)))))) (.inr (a0, 30)) 7 (((mx_uL h (.inr (a0, 37)) (Int32.toNatClampNeg ((6 * (h.2.1 (.inr (a0, 30)) 7)) + (h.2.1 (.inr (a0, 30)) 7))) (Int32.toInt64 ((a2 * a4) - (a1 * (h.2.1 (.inr (a0, 31)) (Int32.toNatClampNeg a3)))))).2.1 (.inr (a0, 30)) 7) + 1)))) else (Sum.inl (.inr (.inr (a0, a1, a2, a3, a4, (a5 + 1), mx_uL (mx_uL h (.inr (a0, 37)) (Int32.toNatClampNeg ((6 * a5) + (h.2.1 (.inr (a0, 30)) 7))) (Int32.toInt64 ((-a2) * (h.2.1 (.inr (a0, 34)) (Int32.toNatClampNeg ((6 * a3) + (h.2.1 (.inr (a0, 36)) (Int32.toNatClampNeg a5)))))))) (.inr (a0, 37)) (Int32.toNatClampNeg ((6 * ((mx_uL h (.inr (a0, 37)) (Int32.toNatClampNeg ((6 * a5) + (h.2.1 (.inr (a0, 30)) 7))) (Int32.toInt64 ((-a2) * (h.2.1 (.inr (a0, 34)) (Int32.toNatClampNeg ((6 * a3) + (h.2.1 (.inr (a0, 36)) (Int32.toNatClampNeg a5)))))))).2.1 (.inr (a0, 30)) 7)) + a5)) (Int32.toInt64 ((-a2) * (h.2.1 (.inr (a0, 34)) (Int32.toNatClampNeg ((6 * a3) + (h.2.1 (.inr (a0, 36)) (Int32.toNatClampNeg a5))))))))))))
noncomputable def g28_7 (a0 : Nat) (a1 : Int32) (a2 : Int32) (a3 : Int32) (h : mx_H) : mx_H := ml_wh b28 (.inl (a0, a1, a2, a3, h))
noncomputable def g28_48 (a0 : Nat) (a1 : Int32) (a2 : Int32) (a3 : Int32) (a4 : Int32) (a5 : Int32) (h : mx_H) : mx_H := ml_wh b28 (.inr (.inl (a0, a1, a2, a3, a4, a5, h)))
noncomputable def g28_83 (a0 : Nat) (a1 : Int32) (a2 : Int32) (a3 : Int32) (a4 : Int32) (a5 : Int32) (h : mx_H) : mx_H := ml_wh b28 (.inr (.inr (a0, a1, a2, a3, a4, a5, h)))
theorem g28_7_eq (a0 : Nat) (a1 : Int32) (a2 : Int32) (a3 : Int32) (h : mx_H) : g28_7 a0 a1 a2 a3 h = (if (h.2.1 (.inr (a0, 30)) 0) ≤ a3 then h else (if (h.2.1 (.inr (a0, 33)) (Int32.toNatClampNeg a3)) = 0 then (g28_48 a0 a1 a2 a3 ((mx_uI h (.inr (a0, 36)) (Int32.toNatClampNeg (h.2.1 (.inr (a0, 30)) 7)) a3).2.1 (.inr (a0, 32)) (Int32.toNatClampNeg a3)) 0 (mx_uI h (.inr (a0, 36)) (Int32.toNatClampNeg (h.2.1 (.inr (a0, 30)) 7)) a3)) else (g28_7 a0 a1 a2 (a3 + 1) h))) := by
  unfold g28_7
  rw [ml_wh_eq]
  simp only [b28, ml_go_ite, ml_go_l, ml_go_r, ml_go_opt, ml_go_let, ml_go_h, ml_go_val]
  try rfl
theorem g28_48_eq (a0 : Nat) (a1 : Int32) (a2 : Int32) (a3 : Int32) (a4 : Int32) (a5 : Int32) (h : mx_H) : g28_48 a0 a1 a2 a3 a4 a5 h = (if (h.2.1 (.inr (a0, 30)) 0) ≤ a5 then (g28_83 a0 a1 a2 a3 a4 0 h) else (g28_48 a0 a1 a2 a3 (a4 + (h.2.1 (.inr (a0, 34)) (Int32.toNatClampNeg ((6 * a3) + a5)))) (a5 + 1) h)) := by
  unfold g28_48
  rw [ml_wh_eq]
  simp only [b28, ml_go_ite, ml_go_l, ml_go_r, ml_go_opt, ml_go_let, ml_go_h, ml_go_val]
  try rfl
theorem g28_83_eq (a0 : Nat) (a1 : Int32) (a2 : Int32) (a3 : Int32) (a4 : Int32) (a5 : Int32) (h : mx_H) : g28_83 a0 a1 a2 a3 a4 a5 h = (if (h.2.1 (.inr (a0, 30)) 7) ≤ a5 then (g28_7 a0 a1 a2 (a3 + 1) (mx_uI (mx_uL h (.inr (a0, 37)) (Int32.toNatClampNeg ((6 * (h.2.1 (.inr (a0, 30)) 7)) + (h.2.1 (.inr (a0, 30)) 7))) (Int32.toInt64 ((a2 * a4) - (a1 * (h.2.1 (.inr (a0, 31)) (Int32.toNatClampNeg a3)))))) (.inr (a0, 30)) 7 (((mx_uL h (.inr (a0, 37)) (Int32.toNatClampNeg ((6 * (h.2.1 (.inr (a0, 30)) 7)) + (h.2.1 (.inr (a0, 30)) 7))) (Int32.toInt64 ((a2 * a4) - (a1 * (h.2.1 (.inr (a0, 31)) (Int32.toNatClampNeg a3)))))).2.1 (.inr (a0, 30)) 7) + 1))) else (g28_83 a0 a1 a2 a3 a4 (a5 + 1) (mx_uL (mx_uL h (.inr (a0, 37)) (Int32.toNatClampNeg ((6 * a5) + (h.2.1 (.inr (a0, 30)) 7))) (Int32.toInt64 ((-a2) * (h.2.1 (.inr (a0, 34)) (Int32.toNatClampNeg ((6 * a3) + (h.2.1 (.inr (a0, 36)) (Int32.toNatClampNeg a5)))))))) (.inr (a0, 37)) (Int32.toNatClampNeg ((6 * ((mx_uL h (.inr (a0, 37)) (Int32.toNatClampNeg ((6 * a5) + (h.2.1 (.inr (a0, 30)) 7))) (Int32.toInt64 ((-a2) * (h.2.1 (.inr (a0, 34)) (Int32.toNatClampNeg ((6 * a3) + (h.2.1 (.inr (a0, 36)) (Int32.toNatClampNeg a5)))))))).2.1 (.inr (a0, 30)) 7)) + a5)) (Int32.toInt64 ((-a2) * (h.2.1 (.inr (a0, 34)) (Int32.toNatClampNeg ((6 * a3) + (h.2.1 (.inr (a0, 36)) (Int32.toNatClampNeg a5)))))))))) := by
  unfold g28_83
  rw [ml_wh_eq]
  simp only [b28, ml_go_ite, ml_go_l, ml_go_r, ml_go_opt, ml_go_let, ml_go_h, ml_go_val]
  try rfl
noncomputable def f28 (t0 : Nat) (a1 : Int32) (a2 : Int32) (h : mx_H) : mx_H := x_box (g28_7 t0 a1 a2 0 (mx_uI h (.inr (t0, 30)) 7 0))
theorem f28_eq (t0 : Nat) (a1 : Int32) (a2 : Int32) (h : mx_H) : f28 t0 a1 a2 h = (g28_7 t0 a1 a2 0 (mx_uI h (.inr (t0, 30)) 7 0)) := x_box_eq _
theorem xw28 {E : mx_Ev} {Q : Option mx_V → mx_H → Prop} : ∀ n : Nat, (∀ (a0 : Nat) (a1 : Int32) (a2 : Int32) (a3 : Int32) (h : mx_H), (xK_v Q) (g28_7 a0 a1 a2 a3 h) → mx_L E n 28 7 [(0, .inr (.inr (a0, 30))), (1, .inl (.int a1)), (2, .inl (.int a2)), (3, .inl (.int a3))] [] h Q) ∧ (∀ (a0 : Nat) (a1 : Int32) (a2 : Int32) (a3 : Int32) (a4 : Int32) (a5 : Int32) (h : mx_H), (xK_v Q) (g28_48 a0 a1 a2 a3 a4 a5 h) → mx_L E n 28 48 [(0, .inr (.inr (a0, 30))), (1, .inl (.int a1)), (2, .inl (.int a2)), (3, .inl (.int a3)), (4, .inl (.int a4)), (5, .inl (.int a5))] [] h Q) ∧ (∀ (a0 : Nat) (a1 : Int32) (a2 : Int32) (a3 : Int32) (a4 : Int32) (a5 : Int32) (h : mx_H), (xK_v Q) (g28_83 a0 a1 a2 a3 a4 a5 h) → mx_L E n 28 83 [(0, .inr (.inr (a0, 30))), (1, .inl (.int a1)), (2, .inl (.int a2)), (3, .inl (.int a3)), (4, .inl (.int a4)), (5, .inl (.int a5))] [] h Q)
  | 0 => ⟨fun _ _ _ _ _ _ => mx_L.zero, fun _ _ _ _ _ _ _ _ => mx_L.zero, fun _ _ _ _ _ _ _ _ => mx_L.zero⟩
  | n + 1 => ⟨fun a0 a1 a2 a3 h hK => sl28_7 (x_use (x_eq (K := (xK_v Q)) (g28_7_eq a0 a1 a2 a3 h) hK) (fun hK => (x_ite hK (fun hK => hK) (fun hK => (fun _ => (x_ite hK (fun hK => (fun _ => (fun _ => ((xw28 n).2.1 _ _ _ _ _ _ _ hK)))) (fun hK => ((xw28 n).1 _ _ _ _ _ hK)))))))), fun a0 a1 a2 a3 a4 a5 h hK => sl28_48 (x_use (x_eq (K := (xK_v Q)) (g28_48_eq a0 a1 a2 a3 a4 a5 h) hK) (fun hK => (x_ite hK (fun hK => ((xw28 n).2.2 _ _ _ _ _ _ _ hK)) (fun hK => (fun _ => ((xw28 n).2.1 _ _ _ _ _ _ _ hK)))))), fun a0 a1 a2 a3 a4 a5 h hK => sl28_83 (x_use (x_eq (K := (xK_v Q)) (g28_83_eq a0 a1 a2 a3 a4 a5 h) hK) (fun hK => (x_ite hK (fun hK => (fun _ => (fun _ => ((xw28 n).1 _ _ _ _ _ hK)))) (fun hK => (fun _ => (fun _ => (fun _ => (fun _ => ((xw28 n).2.2 _ _ _ _ _ _ _ hK)))))))))⟩
theorem x28 {E : mx_Ev} {n : Nat} {h : mx_H} {Q : Option mx_V → mx_H → Prop} {t0 : Nat} {a1 : Int32} {a2 : Int32} (hK : (xK_v Q) (f28 t0 a1 a2 h)) : mx_M E n 28 [.inr (.inr (t0, 30)), .inl (.int a1), .inl (.int a2)] h Q := by
  cases n with
  | zero => exact mx_L.zero
  | succ n => exact sl28_0 (x_use (x_eq (K := (xK_v Q)) (f28_eq t0 a1 a2 h) hK) (fun hK => ((xw28 n).1 _ _ _ _ _ hK)))
noncomputable def b30 : ((Nat × Int32 × Int32 × Int32 × mx_H) ⊕ (Nat × Int32 × Int32 × mx_H) ⊕ (Nat × Int32 × Int32 × Int32 × Int32 × mx_H) ⊕ (Nat × Int32 × Int32 × Int32 × Int32 × Int32 × mx_H) ⊕ (Nat × Int32 × Int32 × Int32 × Int64 × Int32 × mx_H) ⊕ (Nat × Int32 × Int32 × Int32 × Int32 × mx_H)) → ((Nat × Int32 × Int32 × Int32 × mx_H) ⊕ (Nat × Int32 × Int32 × mx_H) ⊕ (Nat × Int32 × Int32 × Int32 × Int32 × mx_H) ⊕ (Nat × Int32 × Int32 × Int32 × Int32 × Int32 × mx_H) ⊕ (Nat × Int32 × Int32 × Int32 × Int64 × Int32 × mx_H) ⊕ (Nat × Int32 × Int32 × Int32 × Int32 × mx_H)) ⊕ (mx_H)
  | (.inl (a0, a1, a2, a3, h)) => (if a1 ≤ a3 then (Sum.inl (.inr (.inl (a0, a1, 2, h)))) else (Sum.inl (.inl (a0, a1, a2, (a3 + 1), mx_uL h (.inr (a0, 39)) (Int32.toNatClampNeg a3) (h.2.2.1 (.inr (a0, 37)) (Int32.toNatClampNeg (a2 + a3)))))))
  | (.inr (.inl (a0, a1, a3, h))) => (if (a1 + 1) < a3 then (Sum.inr h) else (if (a3 - a3 / 2 * 2) = 0 then (Sum.inl (.inr (.inr (.inl (a0, a1, a3, 0, 0, h))))) else (Sum.inl (.inr (.inr (.inl (a0, a1, a3, 1, 0, h)))))))
  | (.inr (.inr (.inl (a0, a1, a3, a4, a5, h)))) => (if a1 ≤ a5 then (Sum.inl (.inr (.inr (.inr (.inr (.inl (a0, a1, a3, a4, 0, 0, h))))))) else (if a4 = 0 then (Sum.inl (.inr (.inr (.inr (.inr (.inl (a0, a1, a3, a4, 0, 0, h))))))) else (Sum.inl (.inr (.inr (.inr (.inl (a0, a1, a3, a4, a5, 0, mx_uL h (.inr (a0, 40)) (Int32.toNatClampNeg a5) 0))))))))
  | (.inr (.inr (.inr (.inl (a0, a1, a3, a4, a5, a6, h))))) => (if a1 ≤ a6 then (Sum.inl (.inr (.inr (.inl (a0, a1, a3, a4, (a5 + 1), h))))) else (Sum.inl (.inr (.inr (.inr (.inl (a0, a1, a3, a4, a5, (a6 + 1), mx_uL h (.inr (a0, 40)) (Int32.toNatClampNeg a5) ((h.2.2.1 (.inr (a0, 40)) (Int32.toNatClampNeg a5)) + ((h.2.2.1 (.inr (a0, 37)) (Int32.toNatClampNeg ((6 * a5) + a6))) * (h.2.2.1 (.inr (a0, 39)) (Int32.toNatClampNeg a6)))))))))))
  | (.inr (.inr (.inr (.inr (.inl (a0, a1, a3, a4, a5, a7, h)))))) => (if a1 ≤ a7 then (if a4 = 0 then (Sum.inl (.inr (.inr (.inr (.inr (.inr (a0, a1, a3, a4, 0, mx_uL h (.inr (a0, 38)) (Int32.toNatClampNeg a3) (-a5)))))))) else (Sum.inl (.inr (.inr (.inr (.inr (.inr (a0, a1, a3, a4, 0, mx_uL h (.inr (a0, 38)) (Int32.toNatClampNeg a3) a5)))))))) else (if a4 = 0 then (Sum.inl (.inr (.inr (.inr (.inr (.inl (a0, a1, a3, a4, (a5 + ((h.2.2.1 (.inr (a0, 39)) (Int32.toNatClampNeg a7)) * (h.2.2.1 (.inr (a0, 39)) (Int32.toNatClampNeg a7)))), (a7 + 1), h))))))) else (Sum.inl (.inr (.inr (.inr (.inr (.inl (a0, a1, a3, a4, (a5 + ((h.2.2.1 (.inr (a0, 39)) (Int32.toNatClampNeg a7)) * (h.2.2.1 (.inr (a0, 40)) (Int32.toNatClampNeg a7)))), (a7 + 1), h)))))))))
  | (.inr (.inr (.inr (.inr (.inr (a0, a1, a3, a4, a7, h)))))) => (if a1 ≤ a7 then (Sum.inl (.inr (.inl (a0, a1, (a3 + 1), h)))) else (if a4 = 0 then (Sum.inl (.inr (.inl (a0, a1, (a3 + 1), h)))) else (Sum.inl (.inr (.inr (.inr (.inr (.inr (a0, a1, a3, a4, (a7 + 1), mx_uL h (.inr (a0, 39)) (Int32.toNatClampNeg a7) (h.2.2.1 (.inr (a0, 40)) (Int32.toNatClampNeg a7)))))))))))
noncomputable def g30_28 (a0 : Nat) (a1 : Int32) (a2 : Int32) (a3 : Int32) (h : mx_H) : mx_H := ml_wh b30 (.inl (a0, a1, a2, a3, h))
noncomputable def g30_55 (a0 : Nat) (a1 : Int32) (a3 : Int32) (h : mx_H) : mx_H := ml_wh b30 (.inr (.inl (a0, a1, a3, h)))
noncomputable def g30_78 (a0 : Nat) (a1 : Int32) (a3 : Int32) (a4 : Int32) (a5 : Int32) (h : mx_H) : mx_H := ml_wh b30 (.inr (.inr (.inl (a0, a1, a3, a4, a5, h))))
noncomputable def g30_100 (a0 : Nat) (a1 : Int32) (a3 : Int32) (a4 : Int32) (a5 : Int32) (a6 : Int32) (h : mx_H) : mx_H := ml_wh b30 (.inr (.inr (.inr (.inl (a0, a1, a3, a4, a5, a6, h)))))
noncomputable def g30_155 (a0 : Nat) (a1 : Int32) (a3 : Int32) (a4 : Int32) (a5 : Int64) (a7 : Int32) (h : mx_H) : mx_H := ml_wh b30 (.inr (.inr (.inr (.inr (.inl (a0, a1, a3, a4, a5, a7, h))))))
noncomputable def g30_224 (a0 : Nat) (a1 : Int32) (a3 : Int32) (a4 : Int32) (a7 : Int32) (h : mx_H) : mx_H := ml_wh b30 (.inr (.inr (.inr (.inr (.inr (a0, a1, a3, a4, a7, h))))))
theorem g30_28_eq (a0 : Nat) (a1 : Int32) (a2 : Int32) (a3 : Int32) (h : mx_H) : g30_28 a0 a1 a2 a3 h = (if a1 ≤ a3 then (g30_55 a0 a1 2 h) else (g30_28 a0 a1 a2 (a3 + 1) (mx_uL h (.inr (a0, 39)) (Int32.toNatClampNeg a3) (h.2.2.1 (.inr (a0, 37)) (Int32.toNatClampNeg (a2 + a3)))))) := by
  unfold g30_28
  rw [ml_wh_eq]
  simp only [b30, ml_go_ite, ml_go_l, ml_go_r, ml_go_opt, ml_go_let, ml_go_h, ml_go_val]
  try rfl
theorem g30_55_eq (a0 : Nat) (a1 : Int32) (a3 : Int32) (h : mx_H) : g30_55 a0 a1 a3 h = (if (a1 + 1) < a3 then h else (if (a3 - a3 / 2 * 2) = 0 then (g30_78 a0 a1 a3 0 0 h) else (g30_78 a0 a1 a3 1 0 h))) := by
  unfold g30_55
  rw [ml_wh_eq]
  simp only [b30, ml_go_ite, ml_go_l, ml_go_r, ml_go_opt, ml_go_let, ml_go_h, ml_go_val]
  try rfl
theorem g30_78_eq (a0 : Nat) (a1 : Int32) (a3 : Int32) (a4 : Int32) (a5 : Int32) (h : mx_H) : g30_78 a0 a1 a3 a4 a5 h = (if a1 ≤ a5 then (g30_155 a0 a1 a3 a4 0 0 h) else (if a4 = 0 then (g30_155 a0 a1 a3 a4 0 0 h) else (g30_100 a0 a1 a3 a4 a5 0 (mx_uL h (.inr (a0, 40)) (Int32.toNatClampNeg a5) 0)))) := by
  unfold g30_78
  rw [ml_wh_eq]
  simp only [b30, ml_go_ite, ml_go_l, ml_go_r, ml_go_opt, ml_go_let, ml_go_h, ml_go_val]
  try rfl
theorem g30_100_eq (a0 : Nat) (a1 : Int32) (a3 : Int32) (a4 : Int32) (a5 : Int32) (a6 : Int32) (h : mx_H) : g30_100 a0 a1 a3 a4 a5 a6 h = (if a1 ≤ a6 then (g30_78 a0 a1 a3 a4 (a5 + 1) h) else (g30_100 a0 a1 a3 a4 a5 (a6 + 1) (mx_uL h (.inr (a0, 40)) (Int32.toNatClampNeg a5) ((h.2.2.1 (.inr (a0, 40)) (Int32.toNatClampNeg a5)) + ((h.2.2.1 (.inr (a0, 37)) (Int32.toNatClampNeg ((6 * a5) + a6))) * (h.2.2.1 (.inr (a0, 39)) (Int32.toNatClampNeg a6))))))) := by
  unfold g30_100
  rw [ml_wh_eq]
  simp only [b30, ml_go_ite, ml_go_l, ml_go_r, ml_go_opt, ml_go_let, ml_go_h, ml_go_val]
  try rfl
theorem g30_155_eq (a0 : Nat) (a1 : Int32) (a3 : Int32) (a4 : Int32) (a5 : Int64) (a7 : Int32) (h : mx_H) : g30_155 a0 a1 a3 a4 a5 a7 h = (if a1 ≤ a7 then (if a4 = 0 then (g30_224 a0 a1 a3 a4 0 (mx_uL h (.inr (a0, 38)) (Int32.toNatClampNeg a3) (-a5))) else (g30_224 a0 a1 a3 a4 0 (mx_uL h (.inr (a0, 38)) (Int32.toNatClampNeg a3) a5))) else (if a4 = 0 then (g30_155 a0 a1 a3 a4 (a5 + ((h.2.2.1 (.inr (a0, 39)) (Int32.toNatClampNeg a7)) * (h.2.2.1 (.inr (a0, 39)) (Int32.toNatClampNeg a7)))) (a7 + 1) h) else (g30_155 a0 a1 a3 a4 (a5 + ((h.2.2.1 (.inr (a0, 39)) (Int32.toNatClampNeg a7)) * (h.2.2.1 (.inr (a0, 40)) (Int32.toNatClampNeg a7)))) (a7 + 1) h))) := by
  unfold g30_155
  rw [ml_wh_eq]
  simp only [b30, ml_go_ite, ml_go_l, ml_go_r, ml_go_opt, ml_go_let, ml_go_h, ml_go_val]
  try rfl
theorem g30_224_eq (a0 : Nat) (a1 : Int32) (a3 : Int32) (a4 : Int32) (a7 : Int32) (h : mx_H) : g30_224 a0 a1 a3 a4 a7 h = (if a1 ≤ a7 then (g30_55 a0 a1 (a3 + 1) h) else (if a4 = 0 then (g30_55 a0 a1 (a3 + 1) h) else (g30_224 a0 a1 a3 a4 (a7 + 1) (mx_uL h (.inr (a0, 39)) (Int32.toNatClampNeg a7) (h.2.2.1 (.inr (a0, 40)) (Int32.toNatClampNeg a7)))))) := by
  unfold g30_224
  rw [ml_wh_eq]
  simp only [b30, ml_go_ite, ml_go_l, ml_go_r, ml_go_opt, ml_go_let, ml_go_h, ml_go_val]
  try rfl
noncomputable def f30 (t0 : Nat) (a1 : Int32) (h : mx_H) : mx_H := x_box (g30_28 t0 a1 (6 * a1) 0 (mx_uL (mx_uL h (.inr (t0, 38)) (Int32.toNatClampNeg 0) 1) (.inr (t0, 38)) (Int32.toNatClampNeg 1) ((mx_uL h (.inr (t0, 38)) (Int32.toNatClampNeg 0) 1).2.2.1 (.inr (t0, 37)) (Int32.toNatClampNeg ((6 * a1) + a1)))))
theorem f30_eq (t0 : Nat) (a1 : Int32) (h : mx_H) : f30 t0 a1 h = (g30_28 t0 a1 (6 * a1) 0 (mx_uL (mx_uL h (.inr (t0, 38)) (Int32.toNatClampNeg 0) 1) (.inr (t0, 38)) (Int32.toNatClampNeg 1) ((mx_uL h (.inr (t0, 38)) (Int32.toNatClampNeg 0) 1).2.2.1 (.inr (t0, 37)) (Int32.toNatClampNeg ((6 * a1) + a1))))) := x_box_eq _
theorem xw30 {E : mx_Ev} {Q : Option mx_V → mx_H → Prop} : ∀ n : Nat, (∀ (a0 : Nat) (a1 : Int32) (a2 : Int32) (a3 : Int32) (h : mx_H), (xK_v Q) (g30_28 a0 a1 a2 a3 h) → mx_L E n 30 28 [(0, .inr (.inr (a0, 30))), (1, .inl (.int a1)), (2, .inl (.int a2)), (3, .inl (.int a3))] [] h Q) ∧ (∀ (a0 : Nat) (a1 : Int32) (a3 : Int32) (h : mx_H), (xK_v Q) (g30_55 a0 a1 a3 h) → mx_L E n 30 55 [(0, .inr (.inr (a0, 30))), (1, .inl (.int a1)), (3, .inl (.int a3))] [] h Q) ∧ (∀ (a0 : Nat) (a1 : Int32) (a3 : Int32) (a4 : Int32) (a5 : Int32) (h : mx_H), (xK_v Q) (g30_78 a0 a1 a3 a4 a5 h) → mx_L E n 30 78 [(0, .inr (.inr (a0, 30))), (1, .inl (.int a1)), (3, .inl (.int a3)), (4, .inl (.int a4)), (5, .inl (.int a5))] [] h Q) ∧ (∀ (a0 : Nat) (a1 : Int32) (a3 : Int32) (a4 : Int32) (a5 : Int32) (a6 : Int32) (h : mx_H), (xK_v Q) (g30_100 a0 a1 a3 a4 a5 a6 h) → mx_L E n 30 100 [(0, .inr (.inr (a0, 30))), (1, .inl (.int a1)), (3, .inl (.int a3)), (4, .inl (.int a4)), (5, .inl (.int a5)), (6, .inl (.int a6))] [] h Q) ∧ (∀ (a0 : Nat) (a1 : Int32) (a3 : Int32) (a4 : Int32) (a5 : Int64) (a7 : Int32) (h : mx_H), (xK_v Q) (g30_155 a0 a1 a3 a4 a5 a7 h) → mx_L E n 30 155 [(0, .inr (.inr (a0, 30))), (1, .inl (.int a1)), (3, .inl (.int a3)), (4, .inl (.int a4)), (5, .inl (.long a5)), (7, .inl (.int a7))] [] h Q) ∧ (∀ (a0 : Nat) (a1 : Int32) (a3 : Int32) (a4 : Int32) (a7 : Int32) (h : mx_H), (xK_v Q) (g30_224 a0 a1 a3 a4 a7 h) → mx_L E n 30 224 [(0, .inr (.inr (a0, 30))), (1, .inl (.int a1)), (3, .inl (.int a3)), (4, .inl (.int a4)), (7, .inl (.int a7))] [] h Q)
  | 0 => ⟨fun _ _ _ _ _ _ => mx_L.zero, fun _ _ _ _ _ => mx_L.zero, fun _ _ _ _ _ _ _ => mx_L.zero, fun _ _ _ _ _ _ _ _ => mx_L.zero, fun _ _ _ _ _ _ _ _ => mx_L.zero, fun _ _ _ _ _ _ _ => mx_L.zero⟩
  | n + 1 => ⟨fun a0 a1 a2 a3 h hK => sl30_28 (x_use (x_eq (K := (xK_v Q)) (g30_28_eq a0 a1 a2 a3 h) hK) (fun hK => (x_ite hK (fun hK => ((xw30 n).2.1 _ _ _ _ hK)) (fun hK => (fun _ => (fun _ => ((xw30 n).1 _ _ _ _ _ hK))))))), fun a0 a1 a3 h hK => sl30_55 (x_use (x_eq (K := (xK_v Q)) (g30_55_eq a0 a1 a3 h) hK) (fun hK => (x_ite hK (fun hK => hK) (fun hK => (fun _ => (x_ite hK (fun hK => ((xw30 n).2.2.1 _ _ _ _ _ _ hK)) (fun hK => ((xw30 n).2.2.1 _ _ _ _ _ _ hK)))))))), fun a0 a1 a3 a4 a5 h hK => sl30_78 (x_use (x_eq (K := (xK_v Q)) (g30_78_eq a0 a1 a3 a4 a5 h) hK) (fun hK => (x_ite hK (fun hK => ((xw30 n).2.2.2.2.1 _ _ _ _ _ _ _ hK)) (fun hK => (x_ite hK (fun hK => ((xw30 n).2.2.2.2.1 _ _ _ _ _ _ _ hK)) (fun hK => (fun _ => ((xw30 n).2.2.2.1 _ _ _ _ _ _ _ hK)))))))), fun a0 a1 a3 a4 a5 a6 h hK => sl30_100 (x_use (x_eq (K := (xK_v Q)) (g30_100_eq a0 a1 a3 a4 a5 a6 h) hK) (fun hK => (x_ite hK (fun hK => ((xw30 n).2.2.1 _ _ _ _ _ _ hK)) (fun hK => (fun _ => (fun _ => (fun _ => (fun _ => ((xw30 n).2.2.2.1 _ _ _ _ _ _ _ hK))))))))), fun a0 a1 a3 a4 a5 a7 h hK => sl30_155 (x_use (x_eq (K := (xK_v Q)) (g30_155_eq a0 a1 a3 a4 a5 a7 h) hK) (fun hK => (x_ite hK (fun hK => (x_ite hK (fun hK => (fun _ => ((xw30 n).2.2.2.2.2 _ _ _ _ _ _ hK))) (fun hK => (fun _ => ((xw30 n).2.2.2.2.2 _ _ _ _ _ _ hK))))) (fun hK => (fun _ => (x_ite hK (fun hK => (fun _ => ((xw30 n).2.2.2.2.1 _ _ _ _ _ _ _ hK))) (fun hK => (fun _ => ((xw30 n).2.2.2.2.1 _ _ _ _ _ _ _ hK))))))))), fun a0 a1 a3 a4 a7 h hK => sl30_224 (x_use (x_eq (K := (xK_v Q)) (g30_224_eq a0 a1 a3 a4 a7 h) hK) (fun hK => (x_ite hK (fun hK => ((xw30 n).2.1 _ _ _ _ hK)) (fun hK => (x_ite hK (fun hK => ((xw30 n).2.1 _ _ _ _ hK)) (fun hK => (fun _ => (fun _ => ((xw30 n).2.2.2.2.2 _ _ _ _ _ _ hK)))))))))⟩
theorem x30 {E : mx_Ev} {n : Nat} {h : mx_H} {Q : Option mx_V → mx_H → Prop} {t0 : Nat} {a1 : Int32} (hK : (xK_v Q) (f30 t0 a1 h)) : mx_M E n 30 [.inr (.inr (t0, 30)), .inl (.int a1)] h Q := by
  cases n with
  | zero => exact mx_L.zero
  | succ n => exact sl30_0 (x_use (x_eq (K := (xK_v Q)) (f30_eq t0 a1 h) hK) (fun hK => (fun _ => (fun _ => (fun _ => ((xw30 n).1 _ _ _ _ _ hK))))))
noncomputable def b29 : ((Nat × Int32 × mx_H) ⊕ (Nat × Int32 × Int32 × mx_H) ⊕ (Nat × Int32 × Int32 × Int64 × Int32 × mx_H)) → ((Nat × Int32 × mx_H) ⊕ (Nat × Int32 × Int32 × mx_H) ⊕ (Nat × Int32 × Int32 × Int64 × Int32 × mx_H)) ⊕ (mx_H)
  | (.inl (a0, a3, h)) => (if (h.2.1 (.inr (a0, 30)) 7) ≤ a3 then (Sum.inr h) else (x_h (f30 a0 a3 h) (fun h2 => (Sum.inl (.inr (.inl (a0, a3, (a3 + 1), h2)))))))
  | (.inr (.inl (a0, a3, a4, h))) => (if a4 ≤ 0 then (Sum.inl (.inl (a0, (a3 + 1), h))) else (Sum.inl (.inr (.inr (a0, a3, a4, 0, 0, h)))))
  | (.inr (.inr (a0, a3, a4, a5, a7, h))) => (if a4 < a7 then (Sum.inl (.inr (.inl (a0, a3, (a4 + (-1)), mx_uL h (.inr (a0, 35)) (Int32.toNatClampNeg a4) a5)))) else (if a3 < a7 then (Sum.inl (.inr (.inl (a0, a3, (a4 + (-1)), mx_uL h (.inr (a0, 35)) (Int32.toNatClampNeg a4) a5)))) else (Sum.inl (.inr (.inr (a0, a3, a4, (a5 + ((h.2.2.1 (.inr (a0, 38)) (Int32.toNatClampNeg (a4 - a7))) * (h.2.2.1 (.inr (a0, 35)) (Int32.toNatClampNeg a7)))), (a7 + 1), h))))))
noncomputable def g29_15 (a0 : Nat) (a3 : Int32) (h : mx_H) : mx_H := ml_wh b29 (.inl (a0, a3, h))
noncomputable def g29_33 (a0 : Nat) (a3 : Int32) (a4 : Int32) (h : mx_H) : mx_H := ml_wh b29 (.inr (.inl (a0, a3, a4, h)))
noncomputable def g29_44 (a0 : Nat) (a3 : Int32) (a4 : Int32) (a5 : Int64) (a7 : Int32) (h : mx_H) : mx_H := ml_wh b29 (.inr (.inr (a0, a3, a4, a5, a7, h)))
theorem g29_15_eq (a0 : Nat) (a3 : Int32) (h : mx_H) : g29_15 a0 a3 h = (if (h.2.1 (.inr (a0, 30)) 7) ≤ a3 then h else (x_h (f30 a0 a3 h) (fun h2 => (g29_33 a0 a3 (a3 + 1) h2)))) := by
  unfold g29_15
  rw [ml_wh_eq]
  simp only [b29, ml_go_ite, ml_go_l, ml_go_r, ml_go_opt, ml_go_let, ml_go_h, ml_go_val]
  try rfl
theorem g29_33_eq (a0 : Nat) (a3 : Int32) (a4 : Int32) (h : mx_H) : g29_33 a0 a3 a4 h = (if a4 ≤ 0 then (g29_15 a0 (a3 + 1) h) else (g29_44 a0 a3 a4 0 0 h)) := by
  unfold g29_33
  rw [ml_wh_eq]
  simp only [b29, ml_go_ite, ml_go_l, ml_go_r, ml_go_opt, ml_go_let, ml_go_h, ml_go_val]
  try rfl
theorem g29_44_eq (a0 : Nat) (a3 : Int32) (a4 : Int32) (a5 : Int64) (a7 : Int32) (h : mx_H) : g29_44 a0 a3 a4 a5 a7 h = (if a4 < a7 then (g29_33 a0 a3 (a4 + (-1)) (mx_uL h (.inr (a0, 35)) (Int32.toNatClampNeg a4) a5)) else (if a3 < a7 then (g29_33 a0 a3 (a4 + (-1)) (mx_uL h (.inr (a0, 35)) (Int32.toNatClampNeg a4) a5)) else (g29_44 a0 a3 a4 (a5 + ((h.2.2.1 (.inr (a0, 38)) (Int32.toNatClampNeg (a4 - a7))) * (h.2.2.1 (.inr (a0, 35)) (Int32.toNatClampNeg a7)))) (a7 + 1) h))) := by
  unfold g29_44
  rw [ml_wh_eq]
  simp only [b29, ml_go_ite, ml_go_l, ml_go_r, ml_go_opt, ml_go_let, ml_go_h, ml_go_val]
  try rfl
noncomputable def f29 (t0 : Nat) (a1 : Int32) (a2 : Int32) (h : mx_H) : mx_H := x_box (x_h (f28 t0 a1 a2 h) (fun h2 => (g29_15 t0 0 (mx_uL h2 (.inr (t0, 35)) (Int32.toNatClampNeg 0) 1))))
theorem f29_eq (t0 : Nat) (a1 : Int32) (a2 : Int32) (h : mx_H) : f29 t0 a1 a2 h = (x_h (f28 t0 a1 a2 h) (fun h2 => (g29_15 t0 0 (mx_uL h2 (.inr (t0, 35)) (Int32.toNatClampNeg 0) 1)))) := x_box_eq _
theorem xw29 {E : mx_Ev} {Q : Option mx_V → mx_H → Prop} : ∀ n : Nat, (∀ (a0 : Nat) (a3 : Int32) (h : mx_H), (xK_v Q) (g29_15 a0 a3 h) → mx_L E n 29 15 [(0, .inr (.inr (a0, 30))), (3, .inl (.int a3))] [] h Q) ∧ (∀ (a0 : Nat) (a3 : Int32) (a4 : Int32) (h : mx_H), (xK_v Q) (g29_33 a0 a3 a4 h) → mx_L E n 29 33 [(0, .inr (.inr (a0, 30))), (3, .inl (.int a3)), (4, .inl (.int a4))] [] h Q) ∧ (∀ (a0 : Nat) (a3 : Int32) (a4 : Int32) (a5 : Int64) (a7 : Int32) (h : mx_H), (xK_v Q) (g29_44 a0 a3 a4 a5 a7 h) → mx_L E n 29 44 [(0, .inr (.inr (a0, 30))), (3, .inl (.int a3)), (4, .inl (.int a4)), (5, .inl (.long a5)), (7, .inl (.int a7))] [] h Q)
  | 0 => ⟨fun _ _ _ _ => mx_L.zero, fun _ _ _ _ _ => mx_L.zero, fun _ _ _ _ _ _ _ => mx_L.zero⟩
  | n + 1 => ⟨fun a0 a3 h hK => sl29_15 (x_use (x_eq (K := (xK_v Q)) (g29_15_eq a0 a3 h) hK) (fun hK => (x_ite hK (fun hK => hK) (fun hK => (x30 (xh_n (x_hk hK (fun hK => ((xw29 n).2.1 _ _ _ _ hK))))))))), fun a0 a3 a4 h hK => sl29_33 (x_use (x_eq (K := (xK_v Q)) (g29_33_eq a0 a3 a4 h) hK) (fun hK => (x_ite hK (fun hK => ((xw29 n).1 _ _ _ hK)) (fun hK => ((xw29 n).2.2 _ _ _ _ _ _ hK))))), fun a0 a3 a4 a5 a7 h hK => sl29_44 (x_use (x_eq (K := (xK_v Q)) (g29_44_eq a0 a3 a4 a5 a7 h) hK) (fun hK => (x_ite hK (fun hK => (fun _ => ((xw29 n).2.1 _ _ _ _ hK))) (fun hK => (x_ite hK (fun hK => (fun _ => ((xw29 n).2.1 _ _ _ _ hK))) (fun hK => (fun _ => (fun _ => ((xw29 n).2.2 _ _ _ _ _ _ hK)))))))))⟩
theorem x29 {E : mx_Ev} {n : Nat} {h : mx_H} {Q : Option mx_V → mx_H → Prop} {t0 : Nat} {a1 : Int32} {a2 : Int32} (hK : (xK_v Q) (f29 t0 a1 a2 h)) : mx_M E n 29 [.inr (.inr (t0, 30)), .inl (.int a1), .inl (.int a2)] h Q := by
  cases n with
  | zero => exact mx_L.zero
  | succ n => exact sl29_0 (x_use (x_eq (K := (xK_v Q)) (f29_eq t0 a1 a2 h) hK) (fun hK => (x28 (xh_n (x_hk hK (fun hK => (fun _ => ((xw29 n).1 _ _ _ hK))))))))
noncomputable def b31 : ((Nat × Int32 × Int32 × Int32 × mx_H)) → ((Nat × Int32 × Int32 × Int32 × mx_H)) ⊕ (Int32 × mx_H)
  | (a0, a3, a4, a5, h) => (if (h.2.1 (.inr (a0, 30)) 7) < a5 then (Sum.inr ((a3 : Int32), h)) else (if (lg_cmp (h.2.2.1 (.inr (a0, 35)) (Int32.toNatClampNeg a5)) 0) = 0 then (Sum.inl (a0, a3, a4, (a5 + 1), h)) else (if 0 ≤ (lg_cmp (h.2.2.1 (.inr (a0, 35)) (Int32.toNatClampNeg a5)) 0) then (if (0 : Int32) = a4 then (Sum.inl (a0, a3, a4, (a5 + 1), h)) else (if a4 ≠ 0 then (Sum.inl (a0, (a3 + 1), 0, (a5 + 1), h)) else (Sum.inl (a0, (a3 + 1), 1, (a5 + 1), h)))) else (if (1 : Int32) = a4 then (Sum.inl (a0, a3, a4, (a5 + 1), h)) else (if a4 ≠ 0 then (Sum.inl (a0, (a3 + 1), 0, (a5 + 1), h)) else (Sum.inl (a0, (a3 + 1), 1, (a5 + 1), h)))))))
noncomputable def g31_14 (a0 : Nat) (a3 : Int32) (a4 : Int32) (a5 : Int32) (h : mx_H) : Int32 × mx_H := ml_wh b31 (a0, a3, a4, a5, h)
theorem g31_14_eq (a0 : Nat) (a3 : Int32) (a4 : Int32) (a5 : Int32) (h : mx_H) : g31_14 a0 a3 a4 a5 h = (if (h.2.1 (.inr (a0, 30)) 7) < a5 then ((a3 : Int32), h) else (if (lg_cmp (h.2.2.1 (.inr (a0, 35)) (Int32.toNatClampNeg a5)) 0) = 0 then (g31_14 a0 a3 a4 (a5 + 1) h) else (if 0 ≤ (lg_cmp (h.2.2.1 (.inr (a0, 35)) (Int32.toNatClampNeg a5)) 0) then (if (0 : Int32) = a4 then (g31_14 a0 a3 a4 (a5 + 1) h) else (if a4 ≠ 0 then (g31_14 a0 (a3 + 1) 0 (a5 + 1) h) else (g31_14 a0 (a3 + 1) 1 (a5 + 1) h))) else (if (1 : Int32) = a4 then (g31_14 a0 a3 a4 (a5 + 1) h) else (if a4 ≠ 0 then (g31_14 a0 (a3 + 1) 0 (a5 + 1) h) else (g31_14 a0 (a3 + 1) 1 (a5 + 1) h)))))) := by
  unfold g31_14
  rw [ml_wh_eq]
  simp only [b31, ml_go_ite, ml_go_l, ml_go_r, ml_go_opt, ml_go_let, ml_go_h, ml_go_val]
  try rfl
noncomputable def f31 (t0 : Nat) (a1 : Int32) (a2 : Int32) (h : mx_H) : Int32 × mx_H := x_box (x_h (f29 t0 a1 a2 h) (fun h2 => (g31_14 t0 0 0 1 h2)))
theorem f31_eq (t0 : Nat) (a1 : Int32) (a2 : Int32) (h : mx_H) : f31 t0 a1 a2 h = (x_h (f29 t0 a1 a2 h) (fun h2 => (g31_14 t0 0 0 1 h2))) := x_box_eq _
theorem xw31 {E : mx_Ev} {Q : Option mx_V → mx_H → Prop} : ∀ n : Nat, (∀ (a0 : Nat) (a3 : Int32) (a4 : Int32) (a5 : Int32) (h : mx_H), (xK_i Q) (g31_14 a0 a3 a4 a5 h) → mx_L E n 31 14 [(0, .inr (.inr (a0, 30))), (3, .inl (.int a3)), (4, .inl (.int a4)), (5, .inl (.int a5))] [] h Q)
  | 0 => fun _ _ _ _ _ _ => mx_L.zero
  | n + 1 => fun a0 a3 a4 a5 h hK => sl31_14 (x_use (x_eq (K := (xK_i Q)) (g31_14_eq a0 a3 a4 a5 h) hK) (fun hK => (x_ite hK (fun hK => hK) (fun hK => (fun _ => (x_ite hK (fun hK => ((xw31 n) _ _ _ _ _ hK)) (fun hK => (fun _ => (x_ite hK (fun hK => (x_ite hK (fun hK => ((xw31 n) _ _ _ _ _ hK)) (fun hK => (x_ite hK (fun hK => ((xw31 n) _ _ _ _ _ hK)) (fun hK => ((xw31 n) _ _ _ _ _ hK)))))) (fun hK => (x_ite hK (fun hK => ((xw31 n) _ _ _ _ _ hK)) (fun hK => (x_ite hK (fun hK => ((xw31 n) _ _ _ _ _ hK)) (fun hK => ((xw31 n) _ _ _ _ _ hK)))))))))))))))
theorem x31 {E : mx_Ev} {n : Nat} {h : mx_H} {Q : Option mx_V → mx_H → Prop} {t0 : Nat} {a1 : Int32} {a2 : Int32} (hK : (xK_i Q) (f31 t0 a1 a2 h)) : mx_M E n 31 [.inr (.inr (t0, 30)), .inl (.int a1), .inl (.int a2)] h Q := by
  cases n with
  | zero => exact mx_L.zero
  | succ n => exact sl31_0 (x_use (x_eq (K := (xK_i Q)) (f31_eq t0 a1 a2 h) hK) (fun hK => (x29 (xh_n (x_hk hK (fun hK => ((xw31 n) _ _ _ _ _ hK)))))))
noncomputable def b33 : ((Nat × Int32 × Int32 × Int32 × Int32 × mx_H)) → ((Nat × Int32 × Int32 × Int32 × Int32 × mx_H)) ⊕ (Int32 × mx_H)
  | (a0, a1, a2, a3, a4, h) => (if a4 ≤ 0 then (Sum.inr ((a3 : Int32), h)) else (if 99 < (a3 + a4) then (Sum.inl (a0, a1, a2, a3, (a4 / 2), h)) else (x_let (f31 a0 (a3 + a4) a2 h) (fun x3 h2 => (if a1 < x3 then (Sum.inl (a0, a1, a2, a3, (a4 / 2), h2)) else (Sum.inl (a0, a1, a2, (a3 + a4), (a4 / 2), h2)))))))
noncomputable def g33_6 (a0 : Nat) (a1 : Int32) (a2 : Int32) (a3 : Int32) (a4 : Int32) (h : mx_H) : Int32 × mx_H := ml_wh b33 (a0, a1, a2, a3, a4, h)
theorem g33_6_eq (a0 : Nat) (a1 : Int32) (a2 : Int32) (a3 : Int32) (a4 : Int32) (h : mx_H) : g33_6 a0 a1 a2 a3 a4 h = (if a4 ≤ 0 then ((a3 : Int32), h) else (if 99 < (a3 + a4) then (g33_6 a0 a1 a2 a3 (a4 / 2) h) else (x_let (f31 a0 (a3 + a4) a2 h) (fun x3 h2 => (if a1 < x3 then (g33_6 a0 a1 a2 a3 (a4 / 2) h2) else (g33_6 a0 a1 a2 (a3 + a4) (a4 / 2) h2)))))) := by
  unfold g33_6
  rw [ml_wh_eq]
  simp only [b33, ml_go_ite, ml_go_l, ml_go_r, ml_go_opt, ml_go_let, ml_go_h, ml_go_val]
  try rfl
noncomputable def f33 (t0 : Nat) (a1 : Int32) (a2 : Int32) (h : mx_H) : Int32 × mx_H := x_box (g33_6 t0 a1 a2 0 64 h)
theorem f33_eq (t0 : Nat) (a1 : Int32) (a2 : Int32) (h : mx_H) : f33 t0 a1 a2 h = (g33_6 t0 a1 a2 0 64 h) := x_box_eq _
theorem xw33 {E : mx_Ev} {Q : Option mx_V → mx_H → Prop} : ∀ n : Nat, (∀ (a0 : Nat) (a1 : Int32) (a2 : Int32) (a3 : Int32) (a4 : Int32) (h : mx_H), (xK_i Q) (g33_6 a0 a1 a2 a3 a4 h) → mx_L E n 33 6 [(0, .inr (.inr (a0, 30))), (1, .inl (.int a1)), (2, .inl (.int a2)), (3, .inl (.int a3)), (4, .inl (.int a4))] [] h Q)
  | 0 => fun _ _ _ _ _ _ _ => mx_L.zero
  | n + 1 => fun a0 a1 a2 a3 a4 h hK => sl33_6 (x_use (x_eq (K := (xK_i Q)) (g33_6_eq a0 a1 a2 a3 a4 h) hK) (fun hK => (x_ite hK (fun hK => hK) (fun hK => (x_ite hK (fun hK => (fun _ => ((xw33 n) _ _ _ _ _ _ hK))) (fun hK => (x31 (xh_i (x_letk hK (fun hK => (x_ite hK (fun hK => (fun _ => ((xw33 n) _ _ _ _ _ _ hK))) (fun hK => (fun _ => ((xw33 n) _ _ _ _ _ _ hK))))))))))))))
theorem x33 {E : mx_Ev} {n : Nat} {h : mx_H} {Q : Option mx_V → mx_H → Prop} {t0 : Nat} {a1 : Int32} {a2 : Int32} (hK : (xK_i Q) (f33 t0 a1 a2 h)) : mx_M E n 33 [.inr (.inr (t0, 30)), .inl (.int a1), .inl (.int a2)] h Q := by
  cases n with
  | zero => exact mx_L.zero
  | succ n => exact sl33_0 (x_use (x_eq (K := (xK_i Q)) (f33_eq t0 a1 a2 h) hK) (fun hK => ((xw33 n) _ _ _ _ _ _ hK)))
noncomputable def b14 : ((Nat × Int32 × Int32 × Int32 × Int32 × Int32 × mx_H) ⊕ (Nat × Int32 × Int32 × Int32 × mx_H)) → ((Nat × Int32 × Int32 × Int32 × Int32 × Int32 × mx_H) ⊕ (Nat × Int32 × Int32 × Int32 × mx_H)) ⊕ (mx_H)
  | (.inl (a1, a2, a3, a4, a5, a6, h)) => (if (h.2.1 (.inl 68) 0) ≤ a6 then (if (h.2.1 (.inl 68) 2) ≠ 0 then (Sum.inl (.inr (a1, a2, a3, ((mx_uI h (.inl 68) 2 ((h.2.1 (.inl 68) 2) + 1)).2.1 (.inl 68) 0), mx_uI h (.inl 68) 2 ((h.2.1 (.inl 68) 2) + 1)))) else (Sum.inl (.inr (a1, a2, a3, ((mx_uI (mx_uI (mx_uI h (.inl 68) 3 a4) (.inl 68) 4 a5) (.inl 68) 2 (((mx_uI (mx_uI h (.inl 68) 3 a4) (.inl 68) 4 a5).2.1 (.inl 68) 2) + 1)).2.1 (.inl 68) 0), mx_uI (mx_uI (mx_uI h (.inl 68) 3 a4) (.inl 68) 4 a5) (.inl 68) 2 (((mx_uI (mx_uI h (.inl 68) 3 a4) (.inl 68) 4 a5).2.1 (.inl 68) 2) + 1))))) else (x_let (f33 a1 a6 a2 h) (fun x3 h2 => (if x3 = (h2.2.1 (.inl 69) (Int32.toNatClampNeg a6)) then (Sum.inl (.inl (a1, a2, a3, a4, a5, (a6 + 1), h2))) else (Sum.inr h2)))))
  | (.inr (a1, a2, a3, a6, h)) => (if a3 ≤ a6 then (Sum.inr h) else (x_let (f33 a1 a6 a2 h) (fun x3 h2 => (Sum.inl (.inr (a1, a2, a3, (a6 + 1), mx_uI h2 (.inl 70) (Int32.toNatClampNeg ((100 * a6) + x3)) ((h2.2.1 (.inl 70) (Int32.toNatClampNeg ((100 * a6) + x3))) + 1)))))))
noncomputable def g14_3 (a1 : Nat) (a2 : Int32) (a3 : Int32) (a4 : Int32) (a5 : Int32) (a6 : Int32) (h : mx_H) : mx_H := ml_wh b14 (.inl (a1, a2, a3, a4, a5, a6, h))
noncomputable def g14_71 (a1 : Nat) (a2 : Int32) (a3 : Int32) (a6 : Int32) (h : mx_H) : mx_H := ml_wh b14 (.inr (a1, a2, a3, a6, h))
theorem g14_3_eq (a1 : Nat) (a2 : Int32) (a3 : Int32) (a4 : Int32) (a5 : Int32) (a6 : Int32) (h : mx_H) : g14_3 a1 a2 a3 a4 a5 a6 h = (if (h.2.1 (.inl 68) 0) ≤ a6 then (if (h.2.1 (.inl 68) 2) ≠ 0 then (g14_71 a1 a2 a3 ((mx_uI h (.inl 68) 2 ((h.2.1 (.inl 68) 2) + 1)).2.1 (.inl 68) 0) (mx_uI h (.inl 68) 2 ((h.2.1 (.inl 68) 2) + 1))) else (g14_71 a1 a2 a3 ((mx_uI (mx_uI (mx_uI h (.inl 68) 3 a4) (.inl 68) 4 a5) (.inl 68) 2 (((mx_uI (mx_uI h (.inl 68) 3 a4) (.inl 68) 4 a5).2.1 (.inl 68) 2) + 1)).2.1 (.inl 68) 0) (mx_uI (mx_uI (mx_uI h (.inl 68) 3 a4) (.inl 68) 4 a5) (.inl 68) 2 (((mx_uI (mx_uI h (.inl 68) 3 a4) (.inl 68) 4 a5).2.1 (.inl 68) 2) + 1)))) else (x_let (f33 a1 a6 a2 h) (fun x3 h2 => (if x3 = (h2.2.1 (.inl 69) (Int32.toNatClampNeg a6)) then (g14_3 a1 a2 a3 a4 a5 (a6 + 1) h2) else h2)))) := by
  unfold g14_3
  rw [ml_wh_eq]
  simp only [b14, ml_go_ite, ml_go_l, ml_go_r, ml_go_opt, ml_go_let, ml_go_h, ml_go_val]
  try rfl
theorem g14_71_eq (a1 : Nat) (a2 : Int32) (a3 : Int32) (a6 : Int32) (h : mx_H) : g14_71 a1 a2 a3 a6 h = (if a3 ≤ a6 then h else (x_let (f33 a1 a6 a2 h) (fun x3 h2 => (g14_71 a1 a2 a3 (a6 + 1) (mx_uI h2 (.inl 70) (Int32.toNatClampNeg ((100 * a6) + x3)) ((h2.2.1 (.inl 70) (Int32.toNatClampNeg ((100 * a6) + x3))) + 1)))))) := by
  unfold g14_71
  rw [ml_wh_eq]
  simp only [b14, ml_go_ite, ml_go_l, ml_go_r, ml_go_opt, ml_go_let, ml_go_h, ml_go_val]
  try rfl
noncomputable def f14 (a1 : Nat) (a2 : Int32) (a3 : Int32) (a4 : Int32) (a5 : Int32) (h : mx_H) : mx_H := x_box (g14_3 a1 a2 a3 a4 a5 0 h)
theorem f14_eq (a1 : Nat) (a2 : Int32) (a3 : Int32) (a4 : Int32) (a5 : Int32) (h : mx_H) : f14 a1 a2 a3 a4 a5 h = (g14_3 a1 a2 a3 a4 a5 0 h) := x_box_eq _
theorem xw14 {E : mx_Ev} {Q : Option mx_V → mx_H → Prop} : ∀ n : Nat, (∀ (a1 : Nat) (a2 : Int32) (a3 : Int32) (a4 : Int32) (a5 : Int32) (a6 : Int32) (h : mx_H), (xK_v Q) (g14_3 a1 a2 a3 a4 a5 a6 h) → mx_L E n 14 3 [(0, .inr (.inl 68)), (1, .inr (.inr (a1, 30))), (2, .inl (.int a2)), (3, .inl (.int a3)), (4, .inl (.int a4)), (5, .inl (.int a5)), (6, .inl (.int a6))] [] h Q) ∧ (∀ (a1 : Nat) (a2 : Int32) (a3 : Int32) (a6 : Int32) (h : mx_H), (xK_v Q) (g14_71 a1 a2 a3 a6 h) → mx_L E n 14 71 [(0, .inr (.inl 68)), (1, .inr (.inr (a1, 30))), (2, .inl (.int a2)), (3, .inl (.int a3)), (6, .inl (.int a6))] [] h Q)
  | 0 => ⟨fun _ _ _ _ _ _ _ _ => mx_L.zero, fun _ _ _ _ _ _ => mx_L.zero⟩
  | n + 1 => ⟨fun a1 a2 a3 a4 a5 a6 h hK => sl14_3 (x_use (x_eq (K := (xK_v Q)) (g14_3_eq a1 a2 a3 a4 a5 a6 h) hK) (fun hK => (x_ite hK (fun hK => (x_ite hK (fun hK => ((xw14 n).2 _ _ _ _ _ hK)) (fun hK => ((xw14 n).2 _ _ _ _ _ hK)))) (fun hK => (x33 (xh_i (x_letk hK (fun hK => (fun _ => (x_ite hK (fun hK => ((xw14 n).1 _ _ _ _ _ _ _ hK)) (fun hK => hK))))))))))), fun a1 a2 a3 a6 h hK => sl14_71 (x_use (x_eq (K := (xK_v Q)) (g14_71_eq a1 a2 a3 a6 h) hK) (fun hK => (x_ite hK (fun hK => hK) (fun hK => (x33 (xh_i (x_letk hK (fun hK => (fun _ => (fun _ => ((xw14 n).2 _ _ _ _ _ hK)))))))))))⟩
theorem x14 {E : mx_Ev} {n : Nat} {h : mx_H} {Q : Option mx_V → mx_H → Prop} {a1 : Nat} {a2 : Int32} {a3 : Int32} {a4 : Int32} {a5 : Int32} (hK : (xK_v Q) (f14 a1 a2 a3 a4 a5 h)) : mx_M E n 14 [.inr (.inl 68), .inr (.inr (a1, 30)), .inl (.int a2), .inl (.int a3), .inl (.int a4), .inl (.int a5)] h Q := by
  cases n with
  | zero => exact mx_L.zero
  | succ n => exact sl14_0 (x_use (x_eq (K := (xK_v Q)) (f14_eq a1 a2 a3 a4 a5 h) hK) (fun hK => ((xw14 n).1 _ _ _ _ _ _ _ hK)))
noncomputable def b13 : ((Nat × Nat × Int32 × Int32 × mx_H) ⊕ (Nat × Nat × Int32 × Int32 × Int32 × mx_H) ⊕ (Nat × Nat × Int32 × Int32 × Int32 × Int32 × mx_H)) → ((Nat × Nat × Int32 × Int32 × mx_H) ⊕ (Nat × Nat × Int32 × Int32 × Int32 × mx_H) ⊕ (Nat × Nat × Int32 × Int32 × Int32 × Int32 × mx_H)) ⊕ (mx_H)
  | (.inl (a1, a2, a3, a4, h)) => (if (h.2.1 (.inr (a1, 0)) 6) ≤ a4 then (x_val (f60 a1 h) (fun x3 => (x_h (f14 a2 a3 x3 (-1) 0 h) (fun h5 => (Sum.inl (.inr (.inl (a1, a2, a3, x3, 0, h5)))))))) else (x_h (f26 a2 (h.2.1 (.inr (a1, 5)) (Int32.toNatClampNeg a4)) (h.2.1 (.inr (a1, 6)) (Int32.toNatClampNeg a4)) (h.2.1 (.inr (a1, 7)) (Int32.toNatClampNeg a4)) h) (fun h7 => (Sum.inl (.inl (a1, a2, a3, (a4 + 1), h7))))))
  | (.inr (.inl (a1, a2, a3, a4, a5, h))) => (if (h.2.1 (.inr (a1, 0)) 6) ≤ a5 then (Sum.inr h) else (Sum.inl (.inr (.inr (a1, a2, a3, a4, a5, 1, h)))))
  | (.inr (.inr (a1, a2, a3, a4, a5, a6, h))) => (if (h.2.1 (.inr (a1, 7)) (Int32.toNatClampNeg a5)) < a6 then (x_h (f26 a2 (h.2.1 (.inr (a1, 5)) (Int32.toNatClampNeg a5)) (h.2.1 (.inr (a1, 6)) (Int32.toNatClampNeg a5)) (h.2.1 (.inr (a1, 7)) (Int32.toNatClampNeg a5)) h) (fun h2 => (Sum.inl (.inr (.inl (a1, a2, a3, a4, (a5 + 1), h2)))))) else (x_h (f26 a2 (h.2.1 (.inr (a1, 5)) (Int32.toNatClampNeg a5)) (h.2.1 (.inr (a1, 6)) (Int32.toNatClampNeg a5)) ((h.2.1 (.inr (a1, 7)) (Int32.toNatClampNeg a5)) - a6) h) (fun h4 => (x_h (f14 a2 a3 a4 a5 a6 h4) (fun h6 => (Sum.inl (.inr (.inr (a1, a2, a3, a4, a5, (a6 + 1), h6)))))))))
noncomputable def g13_31 (a1 : Nat) (a2 : Nat) (a3 : Int32) (a4 : Int32) (h : mx_H) : mx_H := ml_wh b13 (.inl (a1, a2, a3, a4, h))
noncomputable def g13_90 (a1 : Nat) (a2 : Nat) (a3 : Int32) (a4 : Int32) (a5 : Int32) (h : mx_H) : mx_H := ml_wh b13 (.inr (.inl (a1, a2, a3, a4, a5, h)))
noncomputable def g13_102 (a1 : Nat) (a2 : Nat) (a3 : Int32) (a4 : Int32) (a5 : Int32) (a6 : Int32) (h : mx_H) : mx_H := ml_wh b13 (.inr (.inr (a1, a2, a3, a4, a5, a6, h)))
theorem g13_31_eq (a1 : Nat) (a2 : Nat) (a3 : Int32) (a4 : Int32) (h : mx_H) : g13_31 a1 a2 a3 a4 h = (if (h.2.1 (.inr (a1, 0)) 6) ≤ a4 then (x_val (f60 a1 h) (fun x3 => (x_h (f14 a2 a3 x3 (-1) 0 h) (fun h5 => (g13_90 a1 a2 a3 x3 0 h5))))) else (x_h (f26 a2 (h.2.1 (.inr (a1, 5)) (Int32.toNatClampNeg a4)) (h.2.1 (.inr (a1, 6)) (Int32.toNatClampNeg a4)) (h.2.1 (.inr (a1, 7)) (Int32.toNatClampNeg a4)) h) (fun h7 => (g13_31 a1 a2 a3 (a4 + 1) h7)))) := by
  unfold g13_31
  rw [ml_wh_eq]
  simp only [b13, ml_go_ite, ml_go_l, ml_go_r, ml_go_opt, ml_go_let, ml_go_h, ml_go_val]
  try rfl
theorem g13_90_eq (a1 : Nat) (a2 : Nat) (a3 : Int32) (a4 : Int32) (a5 : Int32) (h : mx_H) : g13_90 a1 a2 a3 a4 a5 h = (if (h.2.1 (.inr (a1, 0)) 6) ≤ a5 then h else (g13_102 a1 a2 a3 a4 a5 1 h)) := by
  unfold g13_90
  rw [ml_wh_eq]
  simp only [b13, ml_go_ite, ml_go_l, ml_go_r, ml_go_opt, ml_go_let, ml_go_h, ml_go_val]
  try rfl
theorem g13_102_eq (a1 : Nat) (a2 : Nat) (a3 : Int32) (a4 : Int32) (a5 : Int32) (a6 : Int32) (h : mx_H) : g13_102 a1 a2 a3 a4 a5 a6 h = (if (h.2.1 (.inr (a1, 7)) (Int32.toNatClampNeg a5)) < a6 then (x_h (f26 a2 (h.2.1 (.inr (a1, 5)) (Int32.toNatClampNeg a5)) (h.2.1 (.inr (a1, 6)) (Int32.toNatClampNeg a5)) (h.2.1 (.inr (a1, 7)) (Int32.toNatClampNeg a5)) h) (fun h2 => (g13_90 a1 a2 a3 a4 (a5 + 1) h2))) else (x_h (f26 a2 (h.2.1 (.inr (a1, 5)) (Int32.toNatClampNeg a5)) (h.2.1 (.inr (a1, 6)) (Int32.toNatClampNeg a5)) ((h.2.1 (.inr (a1, 7)) (Int32.toNatClampNeg a5)) - a6) h) (fun h4 => (x_h (f14 a2 a3 a4 a5 a6 h4) (fun h6 => (g13_102 a1 a2 a3 a4 a5 (a6 + 1) h6)))))) := by
  unfold g13_102
  rw [ml_wh_eq]
  simp only [b13, ml_go_ite, ml_go_l, ml_go_r, ml_go_opt, ml_go_let, ml_go_h, ml_go_val]
  try rfl
noncomputable def f13 (a1 : Nat) (a2 : Nat) (a3 : Int32) (h : mx_H) : mx_H := x_box (x_h (f317 (.inl 70) 0 (mx_uI (mx_uI (mx_uI h (.inl 68) 2 0) (.inl 68) 3 (-1)) (.inl 68) 4 0)) (fun h2 => (x_h (f22 a2 a1 h2) (fun h4 => (g13_31 a1 a2 a3 0 h4)))))
theorem f13_eq (a1 : Nat) (a2 : Nat) (a3 : Int32) (h : mx_H) : f13 a1 a2 a3 h = (x_h (f317 (.inl 70) 0 (mx_uI (mx_uI (mx_uI h (.inl 68) 2 0) (.inl 68) 3 (-1)) (.inl 68) 4 0)) (fun h2 => (x_h (f22 a2 a1 h2) (fun h4 => (g13_31 a1 a2 a3 0 h4))))) := x_box_eq _
theorem xw13 {E : mx_Ev} {Q : Option mx_V → mx_H → Prop} : ∀ n : Nat, (∀ (a1 : Nat) (a2 : Nat) (a3 : Int32) (a4 : Int32) (h : mx_H), (xK_v Q) (g13_31 a1 a2 a3 a4 h) → mx_L E n 13 31 [(0, .inr (.inl 68)), (1, .inr (.inr (a1, 0))), (2, .inr (.inr (a2, 30))), (3, .inl (.int a3)), (4, .inl (.int a4))] [] h Q) ∧ (∀ (a1 : Nat) (a2 : Nat) (a3 : Int32) (a4 : Int32) (a5 : Int32) (h : mx_H), (xK_v Q) (g13_90 a1 a2 a3 a4 a5 h) → mx_L E n 13 90 [(0, .inr (.inl 68)), (1, .inr (.inr (a1, 0))), (2, .inr (.inr (a2, 30))), (3, .inl (.int a3)), (4, .inl (.int a4)), (5, .inl (.int a5))] [] h Q) ∧ (∀ (a1 : Nat) (a2 : Nat) (a3 : Int32) (a4 : Int32) (a5 : Int32) (a6 : Int32) (h : mx_H), (xK_v Q) (g13_102 a1 a2 a3 a4 a5 a6 h) → mx_L E n 13 102 [(0, .inr (.inl 68)), (1, .inr (.inr (a1, 0))), (2, .inr (.inr (a2, 30))), (3, .inl (.int a3)), (4, .inl (.int a4)), (5, .inl (.int a5)), (6, .inl (.int a6))] [] h Q)
  | 0 => ⟨fun _ _ _ _ _ _ => mx_L.zero, fun _ _ _ _ _ _ _ => mx_L.zero, fun _ _ _ _ _ _ _ _ => mx_L.zero⟩
  | n + 1 => ⟨fun a1 a2 a3 a4 h hK => sl13_31 (x_use (x_eq (K := (xK_v Q)) (g13_31_eq a1 a2 a3 a4 h) hK) (fun hK => (x_ite hK (fun hK => (x60 (xh_i (x_valk hK (fun hK => (x14 (xh_n (x_hk hK (fun hK => ((xw13 n).2.1 _ _ _ _ _ _ hK)))))))))) (fun hK => (fun _ => (fun _ => (fun _ => (x26 (xh_n (x_hk hK (fun hK => ((xw13 n).1 _ _ _ _ _ hK)))))))))))), fun a1 a2 a3 a4 a5 h hK => sl13_90 (x_use (x_eq (K := (xK_v Q)) (g13_90_eq a1 a2 a3 a4 a5 h) hK) (fun hK => (x_ite hK (fun hK => hK) (fun hK => ((xw13 n).2.2 _ _ _ _ _ _ _ hK))))), fun a1 a2 a3 a4 a5 a6 h hK => sl13_102 (x_use (x_eq (K := (xK_v Q)) (g13_102_eq a1 a2 a3 a4 a5 a6 h) hK) (fun hK => (fun _ => (x_ite hK (fun hK => (fun _ => (fun _ => (fun _ => (x26 (xh_n (x_hk hK (fun hK => ((xw13 n).2.1 _ _ _ _ _ _ hK))))))))) (fun hK => (fun _ => (fun _ => (fun _ => (x26 (xh_n (x_hk hK (fun hK => (x14 (xh_n (x_hk hK (fun hK => ((xw13 n).2.2 _ _ _ _ _ _ _ hK)))))))))))))))))⟩
theorem x13 {E : mx_Ev} {n : Nat} {h : mx_H} {Q : Option mx_V → mx_H → Prop} {a1 : Nat} {a2 : Nat} {a3 : Int32} (hK : (xK_v Q) (f13 a1 a2 a3 h)) : mx_M E n 13 [.inr (.inl 68), .inr (.inr (a1, 0)), .inr (.inr (a2, 30)), .inl (.int a3)] h Q := by
  cases n with
  | zero => exact mx_L.zero
  | succ n => exact sl13_0 (x_use (x_eq (K := (xK_v Q)) (f13_eq a1 a2 a3 h) hK) (fun hK => (x317 (xh_n (x_hk hK (fun hK => (x22 (xh_n (x_hk hK (fun hK => ((xw13 n).1 _ _ _ _ _ hK)))))))))))
noncomputable def b15 : ((Int32 × Int32 × Int32 × Int32 × mx_H) ⊕ (Int32 × Int32 × Int32 × Int32 × Int32 × Int32 × mx_H)) → ((Int32 × Int32 × Int32 × Int32 × mx_H) ⊕ (Int32 × Int32 × Int32 × Int32 × Int32 × Int32 × mx_H)) ⊕ (Int32)
  | (.inl (a1, a2, a3, a4, h)) => (if a1 ≤ a4 then (Sum.inr (a2 : Int32)) else (Sum.inl (.inr (a1, a2, a3, a4, 0, 0, h))))
  | (.inr (a1, a2, a3, a4, a5, a6, h)) => (if 99 < a6 then (if a3 ≤ a5 then (Sum.inl (.inl (a1, a2, a3, (a4 + 1), h))) else (Sum.inl (.inl (a1, a4, a5, (a4 + 1), h)))) else (Sum.inl (.inr (a1, a2, a3, a4, (if a5 < (h.2.1 (.inl 70) (Int32.toNatClampNeg ((100 * a4) + a6))) then (h.2.1 (.inl 70) (Int32.toNatClampNeg ((100 * a4) + a6))) else a5), (a6 + 1), h))))
noncomputable def g15_14 (a1 : Int32) (a2 : Int32) (a3 : Int32) (a4 : Int32) (h : mx_H) : Int32 := ml_wh b15 (.inl (a1, a2, a3, a4, h))
noncomputable def g15_26 (a1 : Int32) (a2 : Int32) (a3 : Int32) (a4 : Int32) (a5 : Int32) (a6 : Int32) (h : mx_H) : Int32 := ml_wh b15 (.inr (a1, a2, a3, a4, a5, a6, h))
theorem g15_14_eq (a1 : Int32) (a2 : Int32) (a3 : Int32) (a4 : Int32) (h : mx_H) : g15_14 a1 a2 a3 a4 h = (if a1 ≤ a4 then (a2 : Int32) else (g15_26 a1 a2 a3 a4 0 0 h)) := by
  unfold g15_14
  rw [ml_wh_eq]
  simp only [b15, ml_go_ite, ml_go_l, ml_go_r, ml_go_opt, ml_go_let, ml_go_h, ml_go_val]
  try rfl
theorem g15_26_eq (a1 : Int32) (a2 : Int32) (a3 : Int32) (a4 : Int32) (a5 : Int32) (a6 : Int32) (h : mx_H) : g15_26 a1 a2 a3 a4 a5 a6 h = (if 99 < a6 then (if a3 ≤ a5 then (g15_14 a1 a2 a3 (a4 + 1) h) else (g15_14 a1 a4 a5 (a4 + 1) h)) else (g15_26 a1 a2 a3 a4 (if a5 < (h.2.1 (.inl 70) (Int32.toNatClampNeg ((100 * a4) + a6))) then (h.2.1 (.inl 70) (Int32.toNatClampNeg ((100 * a4) + a6))) else a5) (a6 + 1) h)) := by
  unfold g15_26
  rw [ml_wh_eq]
  simp only [b15, ml_go_ite, ml_go_l, ml_go_r, ml_go_opt, ml_go_let, ml_go_h, ml_go_val]
  try rfl
noncomputable def f15 (a1 : Int32) (h : mx_H) : Int32 := x_box (g15_14 a1 (h.2.1 (.inl 68) 0) 2147483647 (h.2.1 (.inl 68) 0) h)
theorem f15_eq (a1 : Int32) (h : mx_H) : f15 a1 h = (g15_14 a1 (h.2.1 (.inl 68) 0) 2147483647 (h.2.1 (.inl 68) 0) h) := x_box_eq _
theorem xw15 {E : mx_Ev} {Q : Option mx_V → mx_H → Prop} : ∀ n : Nat, (∀ (a1 : Int32) (a2 : Int32) (a3 : Int32) (a4 : Int32) (h : mx_H), (xK_ip Q h) (g15_14 a1 a2 a3 a4 h) → mx_L E n 15 14 [(0, .inr (.inl 68)), (1, .inl (.int a1)), (2, .inl (.int a2)), (3, .inl (.int a3)), (4, .inl (.int a4))] [] h Q) ∧ (∀ (a1 : Int32) (a2 : Int32) (a3 : Int32) (a4 : Int32) (a5 : Int32) (a6 : Int32) (h : mx_H), (xK_ip Q h) (g15_26 a1 a2 a3 a4 a5 a6 h) → mx_L E n 15 26 [(0, .inr (.inl 68)), (1, .inl (.int a1)), (2, .inl (.int a2)), (3, .inl (.int a3)), (4, .inl (.int a4)), (5, .inl (.int a5)), (6, .inl (.int a6))] [] h Q)
  | 0 => ⟨fun _ _ _ _ _ _ => mx_L.zero, fun _ _ _ _ _ _ _ _ => mx_L.zero⟩
  | n + 1 => ⟨fun a1 a2 a3 a4 h hK => sl15_14 (x_use (x_eq (K := (xK_ip Q h)) (g15_14_eq a1 a2 a3 a4 h) hK) (fun hK => (x_ite hK (fun hK => hK) (fun hK => ((xw15 n).2 _ _ _ _ _ _ _ hK))))), fun a1 a2 a3 a4 a5 a6 h hK => sl15_26 (x_use (x_eq (K := (xK_ip Q h)) (g15_26_eq a1 a2 a3 a4 a5 a6 h) hK) (fun hK => (x_ite hK (fun hK => (x_ite hK (fun hK => ((xw15 n).1 _ _ _ _ _ hK)) (fun hK => ((xw15 n).1 _ _ _ _ _ hK)))) (fun hK => (fun _ => ((xw15 n).2 _ _ _ _ _ _ _ hK))))))⟩
theorem x15 {E : mx_Ev} {n : Nat} {h : mx_H} {Q : Option mx_V → mx_H → Prop} {a1 : Int32} (hK : (xK_ip Q h) (f15 a1 h)) : mx_M E n 15 [.inr (.inl 68), .inl (.int a1)] h Q := by
  cases n with
  | zero => exact mx_L.zero
  | succ n => exact sl15_0 (x_use (x_eq (K := (xK_ip Q h)) (f15_eq a1 h) hK) (fun hK => ((xw15 n).1 _ _ _ _ _ hK)))
noncomputable def b18 : ((Int32 × mx_H)) → ((Int32 × mx_H)) ⊕ (mx_H)
  | (a1, h) => (if 40 ≤ a1 then (Sum.inr (mx_uI h (.inl 84) 0 39)) else (x_opt (ml_sn (h.2.2.2 (.inl 85) (Int32.toNatClampNeg a1))) (fun j1 => (Sum.inl ((a1 + 1), mx_uI (mx_uI (mx_uI (mx_uI (mx_uR h (.inl 85) (Int32.toNatClampNeg (a1 - 1)) (some (.inr (j1, 0)))) (.inl 86) (Int32.toNatClampNeg (a1 - 1)) ((mx_uR h (.inl 85) (Int32.toNatClampNeg (a1 - 1)) (some (.inr (j1, 0)))).2.1 (.inl 86) (Int32.toNatClampNeg a1))) (.inl 87) (Int32.toNatClampNeg (a1 - 1)) ((mx_uI (mx_uR h (.inl 85) (Int32.toNatClampNeg (a1 - 1)) (some (.inr (j1, 0)))) (.inl 86) (Int32.toNatClampNeg (a1 - 1)) ((mx_uR h (.inl 85) (Int32.toNatClampNeg (a1 - 1)) (some (.inr (j1, 0)))).2.1 (.inl 86) (Int32.toNatClampNeg a1))).2.1 (.inl 87) (Int32.toNatClampNeg a1))) (.inl 88) (Int32.toNatClampNeg (a1 - 1)) ((mx_uI (mx_uI (mx_uR h (.inl 85) (Int32.toNatClampNeg (a1 - 1)) (some (.inr (j1, 0)))) (.inl 86) (Int32.toNatClampNeg (a1 - 1)) ((mx_uR h (.inl 85) (Int32.toNatClampNeg (a1 - 1)) (some (.inr (j1, 0)))).2.1 (.inl 86) (Int32.toNatClampNeg a1))) (.inl 87) (Int32.toNatClampNeg (a1 - 1)) ((mx_uI (mx_uR h (.inl 85) (Int32.toNatClampNeg (a1 - 1)) (some (.inr (j1, 0)))) (.inl 86) (Int32.toNatClampNeg (a1 - 1)) ((mx_uR h (.inl 85) (Int32.toNatClampNeg (a1 - 1)) (some (.inr (j1, 0)))).2.1 (.inl 86) (Int32.toNatClampNeg a1))).2.1 (.inl 87) (Int32.toNatClampNeg a1))).2.1 (.inl 88) (Int32.toNatClampNeg a1))) (.inl 89) (Int32.toNatClampNeg (a1 - 1)) ((mx_uI (mx_uI (mx_uI (mx_uR h (.inl 85) (Int32.toNatClampNeg (a1 - 1)) (some (.inr (j1, 0)))) (.inl 86) (Int32.toNatClampNeg (a1 - 1)) ((mx_uR h (.inl 85) (Int32.toNatClampNeg (a1 - 1)) (some (.inr (j1, 0)))).2.1 (.inl 86) (Int32.toNatClampNeg a1))) (.inl 87) (Int32.toNatClampNeg (a1 - 1)) ((mx_uI (mx_uR h (.inl 85) (Int32.toNatClampNeg (a1 - 1)) (some (.inr (j1, 0)))) (.inl 86) (Int32.toNatClampNeg (a1 - 1)) ((mx_uR h (.inl 85) (Int32.toNatClampNeg (a1 - 1)) (some (.inr (j1, 0)))).2.1 (.inl 86) (Int32.toNatClampNeg a1))).2.1 (.inl 87) (Int32.toNatClampNeg a1))) (.inl 88) (Int32.toNatClampNeg (a1 - 1)) ((mx_uI (mx_uI (mx_uR h (.inl 85) (Int32.toNatClampNeg (a1 - 1)) (some (.inr (j1, 0)))) (.inl 86) (Int32.toNatClampNeg (a1 - 1)) ((mx_uR h (.inl 85) (Int32.toNatClampNeg (a1 - 1)) (some (.inr (j1, 0)))).2.1 (.inl 86) (Int32.toNatClampNeg a1))) (.inl 87) (Int32.toNatClampNeg (a1 - 1)) ((mx_uI (mx_uR h (.inl 85) (Int32.toNatClampNeg (a1 - 1)) (some (.inr (j1, 0)))) (.inl 86) (Int32.toNatClampNeg (a1 - 1)) ((mx_uR h (.inl 85) (Int32.toNatClampNeg (a1 - 1)) (some (.inr (j1, 0)))).2.1 (.inl 86) (Int32.toNatClampNeg a1))).2.1 (.inl 87) (Int32.toNatClampNeg a1))).2.1 (.inl 88) (Int32.toNatClampNeg a1))).2.1 (.inl 89) (Int32.toNatClampNeg a1))))) (Sum.inl ((a1 + 1), mx_uI (mx_uI (mx_uI (mx_uI (mx_uR h (.inl 85) (Int32.toNatClampNeg (a1 - 1)) none) (.inl 86) (Int32.toNatClampNeg (a1 - 1)) ((mx_uR h (.inl 85) (Int32.toNatClampNeg (a1 - 1)) none).2.1 (.inl 86) (Int32.toNatClampNeg a1))) (.inl 87) (Int32.toNatClampNeg (a1 - 1)) ((mx_uI (mx_uR h (.inl 85) (Int32.toNatClampNeg (a1 - 1)) none) (.inl 86) (Int32.toNatClampNeg (a1 - 1)) ((mx_uR h (.inl 85) (Int32.toNatClampNeg (a1 - 1)) none).2.1 (.inl 86) (Int32.toNatClampNeg a1))).2.1 (.inl 87) (Int32.toNatClampNeg a1))) (.inl 88) (Int32.toNatClampNeg (a1 - 1)) ((mx_uI (mx_uI (mx_uR h (.inl 85) (Int32.toNatClampNeg (a1 - 1)) none) (.inl 86) (Int32.toNatClampNeg (a1 - 1)) ((mx_uR h (.inl 85) (Int32.toNatClampNeg (a1 - 1)) none).2.1 (.inl 86) (Int32.toNatClampNeg a1))) (.inl 87) (Int32.toNatClampNeg (a1 - 1)) ((mx_uI (mx_uR h (.inl 85) (Int32.toNatClampNeg (a1 - 1)) none) (.inl 86) (Int32.toNatClampNeg (a1 - 1)) ((mx_uR h (.inl 85) (Int32.toNatClampNeg (a1 - 1)) none).2.1 (.inl 86) (Int32.toNatClampNeg a1))).2.1 (.inl 87) (Int32.toNatClampNeg a1))).2.1 (.inl 88) (Int32.toNatClampNeg a1))) (.inl 89) (Int32.toNatClampNeg (a1 - 1)) ((mx_uI (mx_uI (mx_uI (mx_uR h (.inl 85) (Int32.toNatClampNeg (a1 - 1)) none) (.inl 86) (Int32.toNatClampNeg (a1 - 1)) ((mx_uR h (.inl 85) (Int32.toNatClampNeg (a1 - 1)) none).2.1 (.inl 86) (Int32.toNatClampNeg a1))) (.inl 87) (Int32.toNatClampNeg (a1 - 1)) ((mx_uI (mx_uR h (.inl 85) (Int32.toNatClampNeg (a1 - 1)) none) (.inl 86) (Int32.toNatClampNeg (a1 - 1)) ((mx_uR h (.inl 85) (Int32.toNatClampNeg (a1 - 1)) none).2.1 (.inl 86) (Int32.toNatClampNeg a1))).2.1 (.inl 87) (Int32.toNatClampNeg a1))) (.inl 88) (Int32.toNatClampNeg (a1 - 1)) ((mx_uI (mx_uI (mx_uR h (.inl 85) (Int32.toNatClampNeg (a1 - 1)) none) (.inl 86) (Int32.toNatClampNeg (a1 - 1)) ((mx_uR h (.inl 85) (Int32.toNatClampNeg (a1 - 1)) none).2.1 (.inl 86) (Int32.toNatClampNeg a1))) (.inl 87) (Int32.toNatClampNeg (a1 - 1)) ((mx_uI (mx_uR h (.inl 85) (Int32.toNatClampNeg (a1 - 1)) none) (.inl 86) (Int32.toNatClampNeg (a1 - 1)) ((mx_uR h (.inl 85) (Int32.toNatClampNeg (a1 - 1)) none).2.1 (.inl 86) (Int32.toNatClampNeg a1))).2.1 (.inl 87) (Int32.toNatClampNeg a1))).2.1 (.inl 88) (Int32.toNatClampNeg a1))).2.1 (.inl 89) (Int32.toNatClampNeg a1))))))
noncomputable def g18_2 (a1 : Int32) (h : mx_H) : mx_H := ml_wh b18 (a1, h)
theorem g18_2_eq (a1 : Int32) (h : mx_H) : g18_2 a1 h = (if 40 ≤ a1 then (mx_uI h (.inl 84) 0 39) else (x_opt (ml_sn (h.2.2.2 (.inl 85) (Int32.toNatClampNeg a1))) (fun j1 => (g18_2 (a1 + 1) (mx_uI (mx_uI (mx_uI (mx_uI (mx_uR h (.inl 85) (Int32.toNatClampNeg (a1 - 1)) (some (.inr (j1, 0)))) (.inl 86) (Int32.toNatClampNeg (a1 - 1)) ((mx_uR h (.inl 85) (Int32.toNatClampNeg (a1 - 1)) (some (.inr (j1, 0)))).2.1 (.inl 86) (Int32.toNatClampNeg a1))) (.inl 87) (Int32.toNatClampNeg (a1 - 1)) ((mx_uI (mx_uR h (.inl 85) (Int32.toNatClampNeg (a1 - 1)) (some (.inr (j1, 0)))) (.inl 86) (Int32.toNatClampNeg (a1 - 1)) ((mx_uR h (.inl 85) (Int32.toNatClampNeg (a1 - 1)) (some (.inr (j1, 0)))).2.1 (.inl 86) (Int32.toNatClampNeg a1))).2.1 (.inl 87) (Int32.toNatClampNeg a1))) (.inl 88) (Int32.toNatClampNeg (a1 - 1)) ((mx_uI (mx_uI (mx_uR h (.inl 85) (Int32.toNatClampNeg (a1 - 1)) (some (.inr (j1, 0)))) (.inl 86) (Int32.toNatClampNeg (a1 - 1)) ((mx_uR h (.inl 85) (Int32.toNatClampNeg (a1 - 1)) (some (.inr (j1, 0)))).2.1 (.inl 86) (Int32.toNatClampNeg a1))) (.inl 87) (Int32.toNatClampNeg (a1 - 1)) ((mx_uI (mx_uR h (.inl 85) (Int32.toNatClampNeg (a1 - 1)) (some (.inr (j1, 0)))) (.inl 86) (Int32.toNatClampNeg (a1 - 1)) ((mx_uR h (.inl 85) (Int32.toNatClampNeg (a1 - 1)) (some (.inr (j1, 0)))).2.1 (.inl 86) (Int32.toNatClampNeg a1))).2.1 (.inl 87) (Int32.toNatClampNeg a1))).2.1 (.inl 88) (Int32.toNatClampNeg a1))) (.inl 89) (Int32.toNatClampNeg (a1 - 1)) ((mx_uI (mx_uI (mx_uI (mx_uR h (.inl 85) (Int32.toNatClampNeg (a1 - 1)) (some (.inr (j1, 0)))) (.inl 86) (Int32.toNatClampNeg (a1 - 1)) ((mx_uR h (.inl 85) (Int32.toNatClampNeg (a1 - 1)) (some (.inr (j1, 0)))).2.1 (.inl 86) (Int32.toNatClampNeg a1))) (.inl 87) (Int32.toNatClampNeg (a1 - 1)) ((mx_uI (mx_uR h (.inl 85) (Int32.toNatClampNeg (a1 - 1)) (some (.inr (j1, 0)))) (.inl 86) (Int32.toNatClampNeg (a1 - 1)) ((mx_uR h (.inl 85) (Int32.toNatClampNeg (a1 - 1)) (some (.inr (j1, 0)))).2.1 (.inl 86) (Int32.toNatClampNeg a1))).2.1 (.inl 87) (Int32.toNatClampNeg a1))) (.inl 88) (Int32.toNatClampNeg (a1 - 1)) ((mx_uI (mx_uI (mx_uR h (.inl 85) (Int32.toNatClampNeg (a1 - 1)) (some (.inr (j1, 0)))) (.inl 86) (Int32.toNatClampNeg (a1 - 1)) ((mx_uR h (.inl 85) (Int32.toNatClampNeg (a1 - 1)) (some (.inr (j1, 0)))).2.1 (.inl 86) (Int32.toNatClampNeg a1))) (.inl 87) (Int32.toNatClampNeg (a1 - 1)) ((mx_uI (mx_uR h (.inl 85) (Int32.toNatClampNeg (a1 - 1)) (some (.inr (j1, 0)))) (.inl 86) (Int32.toNatClampNeg (a1 - 1)) ((mx_uR h (.inl 85) (Int32.toNatClampNeg (a1 - 1)) (some (.inr (j1, 0)))).2.1 (.inl 86) (Int32.toNatClampNeg a1))).2.1 (.inl 87) (Int32.toNatClampNeg a1))).2.1 (.inl 88) (Int32.toNatClampNeg a1))).2.1 (.inl 89) (Int32.toNatClampNeg a1))))) (g18_2 (a1 + 1) (mx_uI (mx_uI (mx_uI (mx_uI (mx_uR h (.inl 85) (Int32.toNatClampNeg (a1 - 1)) none) (.inl 86) (Int32.toNatClampNeg (a1 - 1)) ((mx_uR h (.inl 85) (Int32.toNatClampNeg (a1 - 1)) none).2.1 (.inl 86) (Int32.toNatClampNeg a1))) (.inl 87) (Int32.toNatClampNeg (a1 - 1)) ((mx_uI (mx_uR h (.inl 85) (Int32.toNatClampNeg (a1 - 1)) none) (.inl 86) (Int32.toNatClampNeg (a1 - 1)) ((mx_uR h (.inl 85) (Int32.toNatClampNeg (a1 - 1)) none).2.1 (.inl 86) (Int32.toNatClampNeg a1))).2.1 (.inl 87) (Int32.toNatClampNeg a1))) (.inl 88) (Int32.toNatClampNeg (a1 - 1)) ((mx_uI (mx_uI (mx_uR h (.inl 85) (Int32.toNatClampNeg (a1 - 1)) none) (.inl 86) (Int32.toNatClampNeg (a1 - 1)) ((mx_uR h (.inl 85) (Int32.toNatClampNeg (a1 - 1)) none).2.1 (.inl 86) (Int32.toNatClampNeg a1))) (.inl 87) (Int32.toNatClampNeg (a1 - 1)) ((mx_uI (mx_uR h (.inl 85) (Int32.toNatClampNeg (a1 - 1)) none) (.inl 86) (Int32.toNatClampNeg (a1 - 1)) ((mx_uR h (.inl 85) (Int32.toNatClampNeg (a1 - 1)) none).2.1 (.inl 86) (Int32.toNatClampNeg a1))).2.1 (.inl 87) (Int32.toNatClampNeg a1))).2.1 (.inl 88) (Int32.toNatClampNeg a1))) (.inl 89) (Int32.toNatClampNeg (a1 - 1)) ((mx_uI (mx_uI (mx_uI (mx_uR h (.inl 85) (Int32.toNatClampNeg (a1 - 1)) none) (.inl 86) (Int32.toNatClampNeg (a1 - 1)) ((mx_uR h (.inl 85) (Int32.toNatClampNeg (a1 - 1)) none).2.1 (.inl 86) (Int32.toNatClampNeg a1))) (.inl 87) (Int32.toNatClampNeg (a1 - 1)) ((mx_uI (mx_uR h (.inl 85) (Int32.toNatClampNeg (a1 - 1)) none) (.inl 86) (Int32.toNatClampNeg (a1 - 1)) ((mx_uR h (.inl 85) (Int32.toNatClampNeg (a1 - 1)) none).2.1 (.inl 86) (Int32.toNatClampNeg a1))).2.1 (.inl 87) (Int32.toNatClampNeg a1))) (.inl 88) (Int32.toNatClampNeg (a1 - 1)) ((mx_uI (mx_uI (mx_uR h (.inl 85) (Int32.toNatClampNeg (a1 - 1)) none) (.inl 86) (Int32.toNatClampNeg (a1 - 1)) ((mx_uR h (.inl 85) (Int32.toNatClampNeg (a1 - 1)) none).2.1 (.inl 86) (Int32.toNatClampNeg a1))) (.inl 87) (Int32.toNatClampNeg (a1 - 1)) ((mx_uI (mx_uR h (.inl 85) (Int32.toNatClampNeg (a1 - 1)) none) (.inl 86) (Int32.toNatClampNeg (a1 - 1)) ((mx_uR h (.inl 85) (Int32.toNatClampNeg (a1 - 1)) none).2.1 (.inl 86) (Int32.toNatClampNeg a1))).2.1 (.inl 87) (Int32.toNatClampNeg a1))).2.1 (.inl 88) (Int32.toNatClampNeg a1))).2.1 (.inl 89) (Int32.toNatClampNeg a1)))))) := by
  unfold g18_2
  rw [ml_wh_eq]
  simp only [b18, ml_go_ite, ml_go_l, ml_go_r, ml_go_opt, ml_go_let, ml_go_h, ml_go_val]
  try rfl
noncomputable def f18  (h : mx_H) : mx_H := x_box (g18_2 1 h)
theorem f18_eq  (h : mx_H) : f18  h = (g18_2 1 h) := x_box_eq _
theorem xw18 {E : mx_Ev} {Q : Option mx_V → mx_H → Prop} : ∀ n : Nat, (∀ (a1 : Int32) (h : mx_H), (xK_v Q) (g18_2 a1 h) → mx_L E n 18 2 [(0, .inr (.inl 84)), (1, .inl (.int a1))] [] h Q)
  | 0 => fun _ _ _ => mx_L.zero
  | n + 1 => fun a1 h hK => sl18_2 (x_use (x_eq (K := (xK_v Q)) (g18_2_eq a1 h) hK) (fun hK => (x_ite hK (fun hK => hK) (fun hK => (fun _ => (x_ref hK (fun j1 hK => (fun _ => (fun _ => (fun _ => (fun _ => (fun _ => (fun _ => (fun _ => (fun _ => (fun _ => ((xw18 n) _ _ hK))))))))))) (fun hK => (fun _ => (fun _ => (fun _ => (fun _ => (fun _ => (fun _ => (fun _ => (fun _ => (fun _ => ((xw18 n) _ _ hK)))))))))))))))))
theorem x18 {E : mx_Ev} {n : Nat} {h : mx_H} {Q : Option mx_V → mx_H → Prop} (hK : (xK_v Q) (f18  h)) : mx_M E n 18 [.inr (.inl 84)] h Q := by
  cases n with
  | zero => exact mx_L.zero
  | succ n => exact sl18_0 (x_use (x_eq (K := (xK_v Q)) (f18_eq  h) hK) (fun hK => ((xw18 n) _ _ hK)))
noncomputable def b17 : ((Nat × Int32 × Int32 × Int32 × Int32 × mx_H)) → ((Nat × Int32 × Int32 × Int32 × Int32 × mx_H)) ⊕ (mx_H)
  | (a1, a2, a3, a4, a5, h) => (Sum.inr (mx_uI (mx_uI (mx_uI (mx_uI (mx_uI (mx_uI (mx_uR h (.inl 85) (Int32.toNatClampNeg (h.2.1 (.inl 84) 0)) (some (.inr (a1, 0)))) (.inl 86) (Int32.toNatClampNeg ((mx_uR h (.inl 85) (Int32.toNatClampNeg (h.2.1 (.inl 84) 0)) (some (.inr (a1, 0)))).2.1 (.inl 84) 0)) a2) (.inl 87) (Int32.toNatClampNeg ((mx_uI (mx_uR h (.inl 85) (Int32.toNatClampNeg (h.2.1 (.inl 84) 0)) (some (.inr (a1, 0)))) (.inl 86) (Int32.toNatClampNeg ((mx_uR h (.inl 85) (Int32.toNatClampNeg (h.2.1 (.inl 84) 0)) (some (.inr (a1, 0)))).2.1 (.inl 84) 0)) a2).2.1 (.inl 84) 0)) a3) (.inl 88) (Int32.toNatClampNeg ((mx_uI (mx_uI (mx_uR h (.inl 85) (Int32.toNatClampNeg (h.2.1 (.inl 84) 0)) (some (.inr (a1, 0)))) (.inl 86) (Int32.toNatClampNeg ((mx_uR h (.inl 85) (Int32.toNatClampNeg (h.2.1 (.inl 84) 0)) (some (.inr (a1, 0)))).2.1 (.inl 84) 0)) a2) (.inl 87) (Int32.toNatClampNeg ((mx_uI (mx_uR h (.inl 85) (Int32.toNatClampNeg (h.2.1 (.inl 84) 0)) (some (.inr (a1, 0)))) (.inl 86) (Int32.toNatClampNeg ((mx_uR h (.inl 85) (Int32.toNatClampNeg (h.2.1 (.inl 84) 0)) (some (.inr (a1, 0)))).2.1 (.inl 84) 0)) a2).2.1 (.inl 84) 0)) a3).2.1 (.inl 84) 0)) a4) (.inl 89) (Int32.toNatClampNeg ((mx_uI (mx_uI (mx_uI (mx_uR h (.inl 85) (Int32.toNatClampNeg (h.2.1 (.inl 84) 0)) (some (.inr (a1, 0)))) (.inl 86) (Int32.toNatClampNeg ((mx_uR h (.inl 85) (Int32.toNatClampNeg (h.2.1 (.inl 84) 0)) (some (.inr (a1, 0)))).2.1 (.inl 84) 0)) a2) (.inl 87) (Int32.toNatClampNeg ((mx_uI (mx_uR h (.inl 85) (Int32.toNatClampNeg (h.2.1 (.inl 84) 0)) (some (.inr (a1, 0)))) (.inl 86) (Int32.toNatClampNeg ((mx_uR h (.inl 85) (Int32.toNatClampNeg (h.2.1 (.inl 84) 0)) (some (.inr (a1, 0)))).2.1 (.inl 84) 0)) a2).2.1 (.inl 84) 0)) a3) (.inl 88) (Int32.toNatClampNeg ((mx_uI (mx_uI (mx_uR h (.inl 85) (Int32.toNatClampNeg (h.2.1 (.inl 84) 0)) (some (.inr (a1, 0)))) (.inl 86) (Int32.toNatClampNeg ((mx_uR h (.inl 85) (Int32.toNatClampNeg (h.2.1 (.inl 84) 0)) (some (.inr (a1, 0)))).2.1 (.inl 84) 0)) a2) (.inl 87) (Int32.toNatClampNeg ((mx_uI (mx_uR h (.inl 85) (Int32.toNatClampNeg (h.2.1 (.inl 84) 0)) (some (.inr (a1, 0)))) (.inl 86) (Int32.toNatClampNeg ((mx_uR h (.inl 85) (Int32.toNatClampNeg (h.2.1 (.inl 84) 0)) (some (.inr (a1, 0)))).2.1 (.inl 84) 0)) a2).2.1 (.inl 84) 0)) a3).2.1 (.inl 84) 0)) a4).2.1 (.inl 84) 0)) a5) (.inl 84) 0 (((mx_uI (mx_uI (mx_uI (mx_uI (mx_uR h (.inl 85) (Int32.toNatClampNeg (h.2.1 (.inl 84) 0)) (some (.inr (a1, 0)))) (.inl 86) (Int32.toNatClampNeg ((mx_uR h (.inl 85) (Int32.toNatClampNeg (h.2.1 (.inl 84) 0)) (some (.inr (a1, 0)))).2.1 (.inl 84) 0)) a2) (.inl 87) (Int32.toNatClampNeg ((mx_uI (mx_uR h (.inl 85) (Int32.toNatClampNeg (h.2.1 (.inl 84) 0)) (some (.inr (a1, 0)))) (.inl 86) (Int32.toNatClampNeg ((mx_uR h (.inl 85) (Int32.toNatClampNeg (h.2.1 (.inl 84) 0)) (some (.inr (a1, 0)))).2.1 (.inl 84) 0)) a2).2.1 (.inl 84) 0)) a3) (.inl 88) (Int32.toNatClampNeg ((mx_uI (mx_uI (mx_uR h (.inl 85) (Int32.toNatClampNeg (h.2.1 (.inl 84) 0)) (some (.inr (a1, 0)))) (.inl 86) (Int32.toNatClampNeg ((mx_uR h (.inl 85) (Int32.toNatClampNeg (h.2.1 (.inl 84) 0)) (some (.inr (a1, 0)))).2.1 (.inl 84) 0)) a2) (.inl 87) (Int32.toNatClampNeg ((mx_uI (mx_uR h (.inl 85) (Int32.toNatClampNeg (h.2.1 (.inl 84) 0)) (some (.inr (a1, 0)))) (.inl 86) (Int32.toNatClampNeg ((mx_uR h (.inl 85) (Int32.toNatClampNeg (h.2.1 (.inl 84) 0)) (some (.inr (a1, 0)))).2.1 (.inl 84) 0)) a2).2.1 (.inl 84) 0)) a3).2.1 (.inl 84) 0)) a4) (.inl 89) (Int32.toNatClampNeg ((mx_uI (mx_uI (mx_uI (mx_uR h (.inl 85) (Int32.toNatClampNeg (h.2.1 (.inl 84) 0)) (some (.inr (a1, 0)))) (.inl 86) (Int32.toNatClampNeg ((mx_uR h (.inl 85) (Int32.toNatClampNeg (h.2.1 (.inl 84) 0)) (some (.inr (a1, 0)))).2.1 (.inl 84) 0)) a2) (.inl 87) (Int32.toNatClampNeg ((mx_uI (mx_uR h (.inl 85) (Int32.toNatClampNeg (h.2.1 (.inl 84) 0)) (some (.inr (a1, 0)))) (.inl 86) (Int32.toNatClampNeg ((mx_uR h (.inl 85) (Int32.toNatClampNeg (h.2.1 (.inl 84) 0)) (some (.inr (a1, 0)))).2.1 (.inl 84) 0)) a2).2.1 (.inl 84) 0)) a3) (.inl 88) (Int32.toNatClampNeg ((mx_uI (mx_uI (mx_uR h (.inl 85) (Int32.toNatClampNeg (h.2.1 (.inl 84) 0)) (some (.inr (a1, 0)))) (.inl 86) (Int32.toNatClampNeg ((mx_uR h (.inl 85) (Int32.toNatClampNeg (h.2.1 (.inl 84) 0)) (some (.inr (a1, 0)))).2.1 (.inl 84) 0)) a2) (.inl 87) (Int32.toNatClampNeg ((mx_uI (mx_uR h (.inl 85) (Int32.toNatClampNeg (h.2.1 (.inl 84) 0)) (some (.inr (a1, 0)))) (.inl 86) (Int32.toNatClampNeg ((mx_uR h (.inl 85) (Int32.toNatClampNeg (h.2.1 (.inl 84) 0)) (some (.inr (a1, 0)))).2.1 (.inl 84) 0)) a2).2.1 (.inl 84) 0)) a3).2.1 (.inl 84) 0)) a4).2.1 (.inl 84) 0)) a5).2.1 (.inl 84) 0) + 1)) (.inl 84) 1 0))
noncomputable def g17_13 (a1 : Nat) (a2 : Int32) (a3 : Int32) (a4 : Int32) (a5 : Int32) (h : mx_H) : mx_H := ml_wh b17 (a1, a2, a3, a4, a5, h)
theorem g17_13_eq (a1 : Nat) (a2 : Int32) (a3 : Int32) (a4 : Int32) (a5 : Int32) (h : mx_H) : g17_13 a1 a2 a3 a4 a5 h = (mx_uI (mx_uI (mx_uI (mx_uI (mx_uI (mx_uI (mx_uR h (.inl 85) (Int32.toNatClampNeg (h.2.1 (.inl 84) 0)) (some (.inr (a1, 0)))) (.inl 86) (Int32.toNatClampNeg ((mx_uR h (.inl 85) (Int32.toNatClampNeg (h.2.1 (.inl 84) 0)) (some (.inr (a1, 0)))).2.1 (.inl 84) 0)) a2) (.inl 87) (Int32.toNatClampNeg ((mx_uI (mx_uR h (.inl 85) (Int32.toNatClampNeg (h.2.1 (.inl 84) 0)) (some (.inr (a1, 0)))) (.inl 86) (Int32.toNatClampNeg ((mx_uR h (.inl 85) (Int32.toNatClampNeg (h.2.1 (.inl 84) 0)) (some (.inr (a1, 0)))).2.1 (.inl 84) 0)) a2).2.1 (.inl 84) 0)) a3) (.inl 88) (Int32.toNatClampNeg ((mx_uI (mx_uI (mx_uR h (.inl 85) (Int32.toNatClampNeg (h.2.1 (.inl 84) 0)) (some (.inr (a1, 0)))) (.inl 86) (Int32.toNatClampNeg ((mx_uR h (.inl 85) (Int32.toNatClampNeg (h.2.1 (.inl 84) 0)) (some (.inr (a1, 0)))).2.1 (.inl 84) 0)) a2) (.inl 87) (Int32.toNatClampNeg ((mx_uI (mx_uR h (.inl 85) (Int32.toNatClampNeg (h.2.1 (.inl 84) 0)) (some (.inr (a1, 0)))) (.inl 86) (Int32.toNatClampNeg ((mx_uR h (.inl 85) (Int32.toNatClampNeg (h.2.1 (.inl 84) 0)) (some (.inr (a1, 0)))).2.1 (.inl 84) 0)) a2).2.1 (.inl 84) 0)) a3).2.1 (.inl 84) 0)) a4) (.inl 89) (Int32.toNatClampNeg ((mx_uI (mx_uI (mx_uI (mx_uR h (.inl 85) (Int32.toNatClampNeg (h.2.1 (.inl 84) 0)) (some (.inr (a1, 0)))) (.inl 86) (Int32.toNatClampNeg ((mx_uR h (.inl 85) (Int32.toNatClampNeg (h.2.1 (.inl 84) 0)) (some (.inr (a1, 0)))).2.1 (.inl 84) 0)) a2) (.inl 87) (Int32.toNatClampNeg ((mx_uI (mx_uR h (.inl 85) (Int32.toNatClampNeg (h.2.1 (.inl 84) 0)) (some (.inr (a1, 0)))) (.inl 86) (Int32.toNatClampNeg ((mx_uR h (.inl 85) (Int32.toNatClampNeg (h.2.1 (.inl 84) 0)) (some (.inr (a1, 0)))).2.1 (.inl 84) 0)) a2).2.1 (.inl 84) 0)) a3) (.inl 88) (Int32.toNatClampNeg ((mx_uI (mx_uI (mx_uR h (.inl 85) (Int32.toNatClampNeg (h.2.1 (.inl 84) 0)) (some (.inr (a1, 0)))) (.inl 86) (Int32.toNatClampNeg ((mx_uR h (.inl 85) (Int32.toNatClampNeg (h.2.1 (.inl 84) 0)) (some (.inr (a1, 0)))).2.1 (.inl 84) 0)) a2) (.inl 87) (Int32.toNatClampNeg ((mx_uI (mx_uR h (.inl 85) (Int32.toNatClampNeg (h.2.1 (.inl 84) 0)) (some (.inr (a1, 0)))) (.inl 86) (Int32.toNatClampNeg ((mx_uR h (.inl 85) (Int32.toNatClampNeg (h.2.1 (.inl 84) 0)) (some (.inr (a1, 0)))).2.1 (.inl 84) 0)) a2).2.1 (.inl 84) 0)) a3).2.1 (.inl 84) 0)) a4).2.1 (.inl 84) 0)) a5) (.inl 84) 0 (((mx_uI (mx_uI (mx_uI (mx_uI (mx_uR h (.inl 85) (Int32.toNatClampNeg (h.2.1 (.inl 84) 0)) (some (.inr (a1, 0)))) (.inl 86) (Int32.toNatClampNeg ((mx_uR h (.inl 85) (Int32.toNatClampNeg (h.2.1 (.inl 84) 0)) (some (.inr (a1, 0)))).2.1 (.inl 84) 0)) a2) (.inl 87) (Int32.toNatClampNeg ((mx_uI (mx_uR h (.inl 85) (Int32.toNatClampNeg (h.2.1 (.inl 84) 0)) (some (.inr (a1, 0)))) (.inl 86) (Int32.toNatClampNeg ((mx_uR h (.inl 85) (Int32.toNatClampNeg (h.2.1 (.inl 84) 0)) (some (.inr (a1, 0)))).2.1 (.inl 84) 0)) a2).2.1 (.inl 84) 0)) a3) (.inl 88) (Int32.toNatClampNeg ((mx_uI (mx_uI (mx_uR h (.inl 85) (Int32.toNatClampNeg (h.2.1 (.inl 84) 0)) (some (.inr (a1, 0)))) (.inl 86) (Int32.toNatClampNeg ((mx_uR h (.inl 85) (Int32.toNatClampNeg (h.2.1 (.inl 84) 0)) (some (.inr (a1, 0)))).2.1 (.inl 84) 0)) a2) (.inl 87) (Int32.toNatClampNeg ((mx_uI (mx_uR h (.inl 85) (Int32.toNatClampNeg (h.2.1 (.inl 84) 0)) (some (.inr (a1, 0)))) (.inl 86) (Int32.toNatClampNeg ((mx_uR h (.inl 85) (Int32.toNatClampNeg (h.2.1 (.inl 84) 0)) (some (.inr (a1, 0)))).2.1 (.inl 84) 0)) a2).2.1 (.inl 84) 0)) a3).2.1 (.inl 84) 0)) a4) (.inl 89) (Int32.toNatClampNeg ((mx_uI (mx_uI (mx_uI (mx_uR h (.inl 85) (Int32.toNatClampNeg (h.2.1 (.inl 84) 0)) (some (.inr (a1, 0)))) (.inl 86) (Int32.toNatClampNeg ((mx_uR h (.inl 85) (Int32.toNatClampNeg (h.2.1 (.inl 84) 0)) (some (.inr (a1, 0)))).2.1 (.inl 84) 0)) a2) (.inl 87) (Int32.toNatClampNeg ((mx_uI (mx_uR h (.inl 85) (Int32.toNatClampNeg (h.2.1 (.inl 84) 0)) (some (.inr (a1, 0)))) (.inl 86) (Int32.toNatClampNeg ((mx_uR h (.inl 85) (Int32.toNatClampNeg (h.2.1 (.inl 84) 0)) (some (.inr (a1, 0)))).2.1 (.inl 84) 0)) a2).2.1 (.inl 84) 0)) a3) (.inl 88) (Int32.toNatClampNeg ((mx_uI (mx_uI (mx_uR h (.inl 85) (Int32.toNatClampNeg (h.2.1 (.inl 84) 0)) (some (.inr (a1, 0)))) (.inl 86) (Int32.toNatClampNeg ((mx_uR h (.inl 85) (Int32.toNatClampNeg (h.2.1 (.inl 84) 0)) (some (.inr (a1, 0)))).2.1 (.inl 84) 0)) a2) (.inl 87) (Int32.toNatClampNeg ((mx_uI (mx_uR h (.inl 85) (Int32.toNatClampNeg (h.2.1 (.inl 84) 0)) (some (.inr (a1, 0)))) (.inl 86) (Int32.toNatClampNeg ((mx_uR h (.inl 85) (Int32.toNatClampNeg (h.2.1 (.inl 84) 0)) (some (.inr (a1, 0)))).2.1 (.inl 84) 0)) a2).2.1 (.inl 84) 0)) a3).2.1 (.inl 84) 0)) a4).2.1 (.inl 84) 0)) a5).2.1 (.inl 84) 0) + 1)) (.inl 84) 1 0) := by
  unfold g17_13
  rw [ml_wh_eq]
  simp only [b17, ml_go_ite, ml_go_l, ml_go_r, ml_go_opt, ml_go_let, ml_go_h, ml_go_val]
  try rfl
noncomputable def f17 (a1 : Nat) (a2 : Int32) (a3 : Int32) (a4 : Int32) (a5 : Int32) (h : mx_H) : mx_H := x_box (if (h.2.1 (.inl 84) 0) < 40 then (g17_13 a1 a2 a3 a4 a5 h) else (x_h (f18 h) (fun h2 => (g17_13 a1 a2 a3 a4 a5 h2))))
theorem f17_eq (a1 : Nat) (a2 : Int32) (a3 : Int32) (a4 : Int32) (a5 : Int32) (h : mx_H) : f17 a1 a2 a3 a4 a5 h = (if (h.2.1 (.inl 84) 0) < 40 then (g17_13 a1 a2 a3 a4 a5 h) else (x_h (f18 h) (fun h2 => (g17_13 a1 a2 a3 a4 a5 h2)))) := x_box_eq _
theorem xw17 {E : mx_Ev} {Q : Option mx_V → mx_H → Prop} : ∀ n : Nat, (∀ (a1 : Nat) (a2 : Int32) (a3 : Int32) (a4 : Int32) (a5 : Int32) (h : mx_H), (xK_v Q) (g17_13 a1 a2 a3 a4 a5 h) → mx_L E n 17 13 [(0, .inr (.inl 84)), (1, .inr (.inr (a1, 0))), (2, .inl (.int a2)), (3, .inl (.int a3)), (4, .inl (.int a4)), (5, .inl (.int a5))] [] h Q)
  | 0 => fun _ _ _ _ _ _ _ => mx_L.zero
  | n + 1 => fun a1 a2 a3 a4 a5 h hK => sl17_13 (x_use (x_eq (K := (xK_v Q)) (g17_13_eq a1 a2 a3 a4 a5 h) hK) (fun hK => (fun _ => (fun _ => (fun _ => (fun _ => (fun _ => hK)))))))
theorem x17 {E : mx_Ev} {n : Nat} {h : mx_H} {Q : Option mx_V → mx_H → Prop} {a1 : Nat} {a2 : Int32} {a3 : Int32} {a4 : Int32} {a5 : Int32} (hK : (xK_v Q) (f17 a1 a2 a3 a4 a5 h)) : mx_M E n 17 [.inr (.inl 84), .inr (.inr (a1, 0)), .inl (.int a2), .inl (.int a3), .inl (.int a4), .inl (.int a5)] h Q := by
  cases n with
  | zero => exact mx_L.zero
  | succ n => exact sl17_0 (x_use (x_eq (K := (xK_v Q)) (f17_eq a1 a2 a3 a4 a5 h) hK) (fun hK => (x_ite hK (fun hK => ((xw17 n) _ _ _ _ _ _ hK)) (fun hK => (x18 (xh_n (x_hk hK (fun hK => ((xw17 n) _ _ _ _ _ _ hK)))))))))
noncomputable def b67 : ((Nat × Int32 × Int32 × mx_H) ⊕ (Nat × Int32 × Int32 × mx_H) ⊕ (Nat × Int32 × Int32 × mx_H) ⊕ (Nat × Int32 × Int32 × mx_H) ⊕ (Nat × Int32 × Int32 × mx_H)) → ((Nat × Int32 × Int32 × mx_H) ⊕ (Nat × Int32 × Int32 × mx_H) ⊕ (Nat × Int32 × Int32 × mx_H) ⊕ (Nat × Int32 × Int32 × mx_H) ⊕ (Nat × Int32 × Int32 × mx_H)) ⊕ (mx_H)
  | (.inl (a0, a2, a3, h)) => (Sum.inr (mx_uI h (.inr (a0, 2)) (Int32.toNatClampNeg a2) a3))
  | (.inr (.inl (a0, a2, a3, h))) => (Sum.inr (mx_uI h (.inr (a0, 3)) (Int32.toNatClampNeg a2) a3))
  | (.inr (.inr (.inl (a0, a2, a3, h)))) => (Sum.inr (mx_uI h (.inr (a0, 4)) (Int32.toNatClampNeg a2) a3))
  | (.inr (.inr (.inr (.inl (a0, a2, a3, h))))) => (Sum.inr (mx_uI h (.inr (a0, 1)) (Int32.toNatClampNeg a2) a3))
  | (.inr (.inr (.inr (.inr (a0, a2, a3, h))))) => (Sum.inr (mx_uI (mx_uI h (.inr (a0, 7)) (Int32.toNatClampNeg a2) (a3 / 10)) (.inr (a0, 8)) (Int32.toNatClampNeg a2) (a3 - a3 / 10 * 10)))
noncomputable def g67_32 (a0 : Nat) (a2 : Int32) (a3 : Int32) (h : mx_H) : mx_H := ml_wh b67 (.inl (a0, a2, a3, h))
noncomputable def g67_42 (a0 : Nat) (a2 : Int32) (a3 : Int32) (h : mx_H) : mx_H := ml_wh b67 (.inr (.inl (a0, a2, a3, h)))
noncomputable def g67_52 (a0 : Nat) (a2 : Int32) (a3 : Int32) (h : mx_H) : mx_H := ml_wh b67 (.inr (.inr (.inl (a0, a2, a3, h))))
noncomputable def g67_62 (a0 : Nat) (a2 : Int32) (a3 : Int32) (h : mx_H) : mx_H := ml_wh b67 (.inr (.inr (.inr (.inl (a0, a2, a3, h)))))
noncomputable def g67_72 (a0 : Nat) (a2 : Int32) (a3 : Int32) (h : mx_H) : mx_H := ml_wh b67 (.inr (.inr (.inr (.inr (a0, a2, a3, h)))))
theorem g67_32_eq (a0 : Nat) (a2 : Int32) (a3 : Int32) (h : mx_H) : g67_32 a0 a2 a3 h = (mx_uI h (.inr (a0, 2)) (Int32.toNatClampNeg a2) a3) := by
  unfold g67_32
  rw [ml_wh_eq]
  simp only [b67, ml_go_ite, ml_go_l, ml_go_r, ml_go_opt, ml_go_let, ml_go_h, ml_go_val]
  try rfl
theorem g67_42_eq (a0 : Nat) (a2 : Int32) (a3 : Int32) (h : mx_H) : g67_42 a0 a2 a3 h = (mx_uI h (.inr (a0, 3)) (Int32.toNatClampNeg a2) a3) := by
  unfold g67_42
  rw [ml_wh_eq]
  simp only [b67, ml_go_ite, ml_go_l, ml_go_r, ml_go_opt, ml_go_let, ml_go_h, ml_go_val]
  try rfl
theorem g67_52_eq (a0 : Nat) (a2 : Int32) (a3 : Int32) (h : mx_H) : g67_52 a0 a2 a3 h = (mx_uI h (.inr (a0, 4)) (Int32.toNatClampNeg a2) a3) := by
  unfold g67_52
  rw [ml_wh_eq]
  simp only [b67, ml_go_ite, ml_go_l, ml_go_r, ml_go_opt, ml_go_let, ml_go_h, ml_go_val]
  try rfl
theorem g67_62_eq (a0 : Nat) (a2 : Int32) (a3 : Int32) (h : mx_H) : g67_62 a0 a2 a3 h = (mx_uI h (.inr (a0, 1)) (Int32.toNatClampNeg a2) a3) := by
  unfold g67_62
  rw [ml_wh_eq]
  simp only [b67, ml_go_ite, ml_go_l, ml_go_r, ml_go_opt, ml_go_let, ml_go_h, ml_go_val]
  try rfl
theorem g67_72_eq (a0 : Nat) (a2 : Int32) (a3 : Int32) (h : mx_H) : g67_72 a0 a2 a3 h = (mx_uI (mx_uI h (.inr (a0, 7)) (Int32.toNatClampNeg a2) (a3 / 10)) (.inr (a0, 8)) (Int32.toNatClampNeg a2) (a3 - a3 / 10 * 10)) := by
  unfold g67_72
  rw [ml_wh_eq]
  simp only [b67, ml_go_ite, ml_go_l, ml_go_r, ml_go_opt, ml_go_let, ml_go_h, ml_go_val]
  try rfl
noncomputable def f67 (t0 : Nat) (a1 : Int32) (a2 : Int32) (a3 : Int32) (h : mx_H) : mx_H := x_box (if a1 = 0 then (g67_32 t0 a2 a3 h) else (if a1 = 1 then (g67_42 t0 a2 a3 h) else (if a1 = 2 then (g67_52 t0 a2 a3 h) else (if a1 = 3 then (g67_62 t0 a2 a3 h) else (g67_72 t0 a2 a3 h)))))
theorem f67_eq (t0 : Nat) (a1 : Int32) (a2 : Int32) (a3 : Int32) (h : mx_H) : f67 t0 a1 a2 a3 h = (if a1 = 0 then (g67_32 t0 a2 a3 h) else (if a1 = 1 then (g67_42 t0 a2 a3 h) else (if a1 = 2 then (g67_52 t0 a2 a3 h) else (if a1 = 3 then (g67_62 t0 a2 a3 h) else (g67_72 t0 a2 a3 h))))) := x_box_eq _
theorem xw67 {E : mx_Ev} {Q : Option mx_V → mx_H → Prop} : ∀ n : Nat, (∀ (a0 : Nat) (a2 : Int32) (a3 : Int32) (h : mx_H), (xK_v Q) (g67_32 a0 a2 a3 h) → mx_L E n 67 32 [(0, .inr (.inr (a0, 0))), (2, .inl (.int a2)), (3, .inl (.int a3))] [] h Q) ∧ (∀ (a0 : Nat) (a2 : Int32) (a3 : Int32) (h : mx_H), (xK_v Q) (g67_42 a0 a2 a3 h) → mx_L E n 67 42 [(0, .inr (.inr (a0, 0))), (2, .inl (.int a2)), (3, .inl (.int a3))] [] h Q) ∧ (∀ (a0 : Nat) (a2 : Int32) (a3 : Int32) (h : mx_H), (xK_v Q) (g67_52 a0 a2 a3 h) → mx_L E n 67 52 [(0, .inr (.inr (a0, 0))), (2, .inl (.int a2)), (3, .inl (.int a3))] [] h Q) ∧ (∀ (a0 : Nat) (a2 : Int32) (a3 : Int32) (h : mx_H), (xK_v Q) (g67_62 a0 a2 a3 h) → mx_L E n 67 62 [(0, .inr (.inr (a0, 0))), (2, .inl (.int a2)), (3, .inl (.int a3))] [] h Q) ∧ (∀ (a0 : Nat) (a2 : Int32) (a3 : Int32) (h : mx_H), (xK_v Q) (g67_72 a0 a2 a3 h) → mx_L E n 67 72 [(0, .inr (.inr (a0, 0))), (2, .inl (.int a2)), (3, .inl (.int a3))] [] h Q)
  | 0 => ⟨fun _ _ _ _ _ => mx_L.zero, fun _ _ _ _ _ => mx_L.zero, fun _ _ _ _ _ => mx_L.zero, fun _ _ _ _ _ => mx_L.zero, fun _ _ _ _ _ => mx_L.zero⟩
  | n + 1 => ⟨fun a0 a2 a3 h hK => sl67_32 (x_use (x_eq (K := (xK_v Q)) (g67_32_eq a0 a2 a3 h) hK) (fun hK => (fun _ => hK))), fun a0 a2 a3 h hK => sl67_42 (x_use (x_eq (K := (xK_v Q)) (g67_42_eq a0 a2 a3 h) hK) (fun hK => (fun _ => hK))), fun a0 a2 a3 h hK => sl67_52 (x_use (x_eq (K := (xK_v Q)) (g67_52_eq a0 a2 a3 h) hK) (fun hK => (fun _ => hK))), fun a0 a2 a3 h hK => sl67_62 (x_use (x_eq (K := (xK_v Q)) (g67_62_eq a0 a2 a3 h) hK) (fun hK => (fun _ => hK))), fun a0 a2 a3 h hK => sl67_72 (x_use (x_eq (K := (xK_v Q)) (g67_72_eq a0 a2 a3 h) hK) (fun hK => (fun _ => (fun _ => (fun _ => (fun _ => hK))))))⟩
theorem x67 {E : mx_Ev} {n : Nat} {h : mx_H} {Q : Option mx_V → mx_H → Prop} {t0 : Nat} {a1 : Int32} {a2 : Int32} {a3 : Int32} (hK : (xK_v Q) (f67 t0 a1 a2 a3 h)) : mx_M E n 67 [.inr (.inr (t0, 0)), .inl (.int a1), .inl (.int a2), .inl (.int a3)] h Q := by
  cases n with
  | zero => exact mx_L.zero
  | succ n => exact sl67_0 (x_use (x_eq (K := (xK_v Q)) (f67_eq t0 a1 a2 a3 h) hK) (fun hK => (fun tgt q => by
          rcases q with ⟨q, e⟩ | ⟨q1, q2, o, qo, e⟩
          · have e2 : tgt = 72 := by omega
            subst e2
            replace hK := x_neg (fun e => by rw [e] at q; revert q; decide) hK
            replace hK := x_neg (fun e => by rw [e] at q; revert q; decide) hK
            replace hK := x_neg (fun e => by rw [e] at q; revert q; decide) hK
            replace hK := x_neg (fun e => by rw [e] at q; revert q; decide) hK
            exact mx_L.sub (lv' := mx_nrm [0, 2, 3] [(0, .inr (.inr (t0, 0))), (1, .inl (.int a1)), (2, .inl (.int a2)), (3, .inl (.int a3))]) mx_nrm_mem ((xw67 n).2.2.2.2 _ _ _ _ hK)
          · have hv : Int32.toInt a1 = 0 ∨ Int32.toInt a1 = 1 ∨ Int32.toInt a1 = 2 ∨ Int32.toInt a1 = 3 := by omega
            rcases hv with hv | hv | hv | hv
            · rw [hv] at qo
              have eo : o = 31 := (Option.some.inj (qo.symm.trans (rfl : _ = some (31 : Int))))
              have e2 : tgt = 32 := by omega
              subst e2
              replace hK := x_pos (Int32.toInt_inj.mp (hv.trans rfl)) hK
              exact mx_L.sub (lv' := mx_nrm [0, 2, 3] [(0, .inr (.inr (t0, 0))), (1, .inl (.int a1)), (2, .inl (.int a2)), (3, .inl (.int a3))]) mx_nrm_mem ((xw67 n).1 _ _ _ _ hK)
            · rw [hv] at qo
              have eo : o = 41 := (Option.some.inj (qo.symm.trans (rfl : _ = some (41 : Int))))
              have e2 : tgt = 42 := by omega
              subst e2
              replace hK := x_neg (fun e => by rw [e] at hv; revert hv; decide) hK
              replace hK := x_pos (Int32.toInt_inj.mp (hv.trans rfl)) hK
              exact mx_L.sub (lv' := mx_nrm [0, 2, 3] [(0, .inr (.inr (t0, 0))), (1, .inl (.int a1)), (2, .inl (.int a2)), (3, .inl (.int a3))]) mx_nrm_mem ((xw67 n).2.1 _ _ _ _ hK)
            · rw [hv] at qo
              have eo : o = 51 := (Option.some.inj (qo.symm.trans (rfl : _ = some (51 : Int))))
              have e2 : tgt = 52 := by omega
              subst e2
              replace hK := x_neg (fun e => by rw [e] at hv; revert hv; decide) hK
              replace hK := x_neg (fun e => by rw [e] at hv; revert hv; decide) hK
              replace hK := x_pos (Int32.toInt_inj.mp (hv.trans rfl)) hK
              exact mx_L.sub (lv' := mx_nrm [0, 2, 3] [(0, .inr (.inr (t0, 0))), (1, .inl (.int a1)), (2, .inl (.int a2)), (3, .inl (.int a3))]) mx_nrm_mem ((xw67 n).2.2.1 _ _ _ _ hK)
            · rw [hv] at qo
              have eo : o = 61 := (Option.some.inj (qo.symm.trans (rfl : _ = some (61 : Int))))
              have e2 : tgt = 62 := by omega
              subst e2
              replace hK := x_neg (fun e => by rw [e] at hv; revert hv; decide) hK
              replace hK := x_neg (fun e => by rw [e] at hv; revert hv; decide) hK
              replace hK := x_neg (fun e => by rw [e] at hv; revert hv; decide) hK
              replace hK := x_pos (Int32.toInt_inj.mp (hv.trans rfl)) hK
              exact mx_L.sub (lv' := mx_nrm [0, 2, 3] [(0, .inr (.inr (t0, 0))), (1, .inl (.int a1)), (2, .inl (.int a2)), (3, .inl (.int a3))]) mx_nrm_mem ((xw67 n).2.2.2.1 _ _ _ _ hK))))
noncomputable def f19  (h : mx_H) : mx_H := x_box (if 0 < (h.2.1 (.inl 84) 0) then (x_opt (ml_sn ((mx_uI (mx_uI h (.inl 84) 0 ((h.2.1 (.inl 84) 0) - 1)) (.inl 84) 1 (((mx_uI h (.inl 84) 0 ((h.2.1 (.inl 84) 0) - 1)).2.1 (.inl 84) 1) + 1)).2.2.2 (.inl 85) (Int32.toNatClampNeg ((mx_uI (mx_uI h (.inl 84) 0 ((h.2.1 (.inl 84) 0) - 1)) (.inl 84) 1 (((mx_uI h (.inl 84) 0 ((h.2.1 (.inl 84) 0) - 1)).2.1 (.inl 84) 1) + 1)).2.1 (.inl 84) 0)))) (fun j1 => (x_opt (ml_sn ((mx_uI (mx_uI h (.inl 84) 0 ((h.2.1 (.inl 84) 0) - 1)) (.inl 84) 1 (((mx_uI h (.inl 84) 0 ((h.2.1 (.inl 84) 0) - 1)).2.1 (.inl 84) 1) + 1)).2.2.2 (.inl 85) (Int32.toNatClampNeg ((mx_uI (mx_uI h (.inl 84) 0 ((h.2.1 (.inl 84) 0) - 1)) (.inl 84) 1 (((mx_uI h (.inl 84) 0 ((h.2.1 (.inl 84) 0) - 1)).2.1 (.inl 84) 1) + 1)).2.1 (.inl 84) 0)))) (fun j2 => (x_h (f67 j2 ((mx_uI (mx_uI h (.inl 84) 0 ((h.2.1 (.inl 84) 0) - 1)) (.inl 84) 1 (((mx_uI h (.inl 84) 0 ((h.2.1 (.inl 84) 0) - 1)).2.1 (.inl 84) 1) + 1)).2.1 (.inl 86) (Int32.toNatClampNeg ((mx_uI (mx_uI h (.inl 84) 0 ((h.2.1 (.inl 84) 0) - 1)) (.inl 84) 1 (((mx_uI h (.inl 84) 0 ((h.2.1 (.inl 84) 0) - 1)).2.1 (.inl 84) 1) + 1)).2.1 (.inl 84) 0))) ((mx_uI (mx_uI h (.inl 84) 0 ((h.2.1 (.inl 84) 0) - 1)) (.inl 84) 1 (((mx_uI h (.inl 84) 0 ((h.2.1 (.inl 84) 0) - 1)).2.1 (.inl 84) 1) + 1)).2.1 (.inl 87) (Int32.toNatClampNeg ((mx_uI (mx_uI h (.inl 84) 0 ((h.2.1 (.inl 84) 0) - 1)) (.inl 84) 1 (((mx_uI h (.inl 84) 0 ((h.2.1 (.inl 84) 0) - 1)).2.1 (.inl 84) 1) + 1)).2.1 (.inl 84) 0))) ((mx_uI (mx_uI h (.inl 84) 0 ((h.2.1 (.inl 84) 0) - 1)) (.inl 84) 1 (((mx_uI h (.inl 84) 0 ((h.2.1 (.inl 84) 0) - 1)).2.1 (.inl 84) 1) + 1)).2.1 (.inl 88) (Int32.toNatClampNeg ((mx_uI (mx_uI h (.inl 84) 0 ((h.2.1 (.inl 84) 0) - 1)) (.inl 84) 1 (((mx_uI h (.inl 84) 0 ((h.2.1 (.inl 84) 0) - 1)).2.1 (.inl 84) 1) + 1)).2.1 (.inl 84) 0))) (mx_uI (mx_uI h (.inl 84) 0 ((h.2.1 (.inl 84) 0) - 1)) (.inl 84) 1 (((mx_uI h (.inl 84) 0 ((h.2.1 (.inl 84) 0) - 1)).2.1 (.inl 84) 1) + 1))) (fun h4 => h4))) h)) (mx_uI (mx_uI h (.inl 84) 0 ((h.2.1 (.inl 84) 0) - 1)) (.inl 84) 1 (((mx_uI h (.inl 84) 0 ((h.2.1 (.inl 84) 0) - 1)).2.1 (.inl 84) 1) + 1))) else h)
theorem f19_eq  (h : mx_H) : f19  h = (if 0 < (h.2.1 (.inl 84) 0) then (x_opt (ml_sn ((mx_uI (mx_uI h (.inl 84) 0 ((h.2.1 (.inl 84) 0) - 1)) (.inl 84) 1 (((mx_uI h (.inl 84) 0 ((h.2.1 (.inl 84) 0) - 1)).2.1 (.inl 84) 1) + 1)).2.2.2 (.inl 85) (Int32.toNatClampNeg ((mx_uI (mx_uI h (.inl 84) 0 ((h.2.1 (.inl 84) 0) - 1)) (.inl 84) 1 (((mx_uI h (.inl 84) 0 ((h.2.1 (.inl 84) 0) - 1)).2.1 (.inl 84) 1) + 1)).2.1 (.inl 84) 0)))) (fun j1 => (x_opt (ml_sn ((mx_uI (mx_uI h (.inl 84) 0 ((h.2.1 (.inl 84) 0) - 1)) (.inl 84) 1 (((mx_uI h (.inl 84) 0 ((h.2.1 (.inl 84) 0) - 1)).2.1 (.inl 84) 1) + 1)).2.2.2 (.inl 85) (Int32.toNatClampNeg ((mx_uI (mx_uI h (.inl 84) 0 ((h.2.1 (.inl 84) 0) - 1)) (.inl 84) 1 (((mx_uI h (.inl 84) 0 ((h.2.1 (.inl 84) 0) - 1)).2.1 (.inl 84) 1) + 1)).2.1 (.inl 84) 0)))) (fun j2 => (x_h (f67 j2 ((mx_uI (mx_uI h (.inl 84) 0 ((h.2.1 (.inl 84) 0) - 1)) (.inl 84) 1 (((mx_uI h (.inl 84) 0 ((h.2.1 (.inl 84) 0) - 1)).2.1 (.inl 84) 1) + 1)).2.1 (.inl 86) (Int32.toNatClampNeg ((mx_uI (mx_uI h (.inl 84) 0 ((h.2.1 (.inl 84) 0) - 1)) (.inl 84) 1 (((mx_uI h (.inl 84) 0 ((h.2.1 (.inl 84) 0) - 1)).2.1 (.inl 84) 1) + 1)).2.1 (.inl 84) 0))) ((mx_uI (mx_uI h (.inl 84) 0 ((h.2.1 (.inl 84) 0) - 1)) (.inl 84) 1 (((mx_uI h (.inl 84) 0 ((h.2.1 (.inl 84) 0) - 1)).2.1 (.inl 84) 1) + 1)).2.1 (.inl 87) (Int32.toNatClampNeg ((mx_uI (mx_uI h (.inl 84) 0 ((h.2.1 (.inl 84) 0) - 1)) (.inl 84) 1 (((mx_uI h (.inl 84) 0 ((h.2.1 (.inl 84) 0) - 1)).2.1 (.inl 84) 1) + 1)).2.1 (.inl 84) 0))) ((mx_uI (mx_uI h (.inl 84) 0 ((h.2.1 (.inl 84) 0) - 1)) (.inl 84) 1 (((mx_uI h (.inl 84) 0 ((h.2.1 (.inl 84) 0) - 1)).2.1 (.inl 84) 1) + 1)).2.1 (.inl 88) (Int32.toNatClampNeg ((mx_uI (mx_uI h (.inl 84) 0 ((h.2.1 (.inl 84) 0) - 1)) (.inl 84) 1 (((mx_uI h (.inl 84) 0 ((h.2.1 (.inl 84) 0) - 1)).2.1 (.inl 84) 1) + 1)).2.1 (.inl 84) 0))) (mx_uI (mx_uI h (.inl 84) 0 ((h.2.1 (.inl 84) 0) - 1)) (.inl 84) 1 (((mx_uI h (.inl 84) 0 ((h.2.1 (.inl 84) 0) - 1)).2.1 (.inl 84) 1) + 1))) (fun h4 => h4))) h)) (mx_uI (mx_uI h (.inl 84) 0 ((h.2.1 (.inl 84) 0) - 1)) (.inl 84) 1 (((mx_uI h (.inl 84) 0 ((h.2.1 (.inl 84) 0) - 1)).2.1 (.inl 84) 1) + 1))) else h) := x_box_eq _
theorem x19 {E : mx_Ev} {n : Nat} {h : mx_H} {Q : Option mx_V → mx_H → Prop} (hK : (xK_v Q) (f19  h)) : mx_M E n 19 [.inr (.inl 84)] h Q := by
  cases n with
  | zero => exact mx_L.zero
  | succ n => exact sl19_0 (x_use (x_eq (K := (xK_v Q)) (f19_eq  h) hK) (fun hK => (x_ite hK (fun hK => (fun _ => (x_ref hK (fun j1 hK => (fun _ => (x_ref hK (fun j2 hK => (fun _ => (fun _ => (fun _ => (x67 (xh_n (x_hk hK (fun hK => hK)))))))) (fun hK => (fun _ => (fun _ => (fun _ => True.intro))))))) (fun hK => hK)))) (fun hK => hK))))
noncomputable def f20  (h : mx_H) : mx_H := x_box (if (h.2.1 (.inl 84) 1) ≤ 0 then h else (if (h.2.1 (.inl 84) 0) < 40 then (x_opt (ml_sn (h.2.2.2 (.inl 85) (Int32.toNatClampNeg (h.2.1 (.inl 84) 0)))) (fun j1 => (x_opt (ml_sn (h.2.2.2 (.inl 85) (Int32.toNatClampNeg (h.2.1 (.inl 84) 0)))) (fun j2 => (x_h (f67 j2 (h.2.1 (.inl 86) (Int32.toNatClampNeg (h.2.1 (.inl 84) 0))) (h.2.1 (.inl 87) (Int32.toNatClampNeg (h.2.1 (.inl 84) 0))) (h.2.1 (.inl 89) (Int32.toNatClampNeg (h.2.1 (.inl 84) 0))) h) (fun h4 => (mx_uI (mx_uI h4 (.inl 84) 0 ((h4.2.1 (.inl 84) 0) + 1)) (.inl 84) 1 (((mx_uI h4 (.inl 84) 0 ((h4.2.1 (.inl 84) 0) + 1)).2.1 (.inl 84) 1) - 1))))) h)) (mx_uI (mx_uI h (.inl 84) 0 ((h.2.1 (.inl 84) 0) + 1)) (.inl 84) 1 (((mx_uI h (.inl 84) 0 ((h.2.1 (.inl 84) 0) + 1)).2.1 (.inl 84) 1) - 1))) else h))
theorem f20_eq  (h : mx_H) : f20  h = (if (h.2.1 (.inl 84) 1) ≤ 0 then h else (if (h.2.1 (.inl 84) 0) < 40 then (x_opt (ml_sn (h.2.2.2 (.inl 85) (Int32.toNatClampNeg (h.2.1 (.inl 84) 0)))) (fun j1 => (x_opt (ml_sn (h.2.2.2 (.inl 85) (Int32.toNatClampNeg (h.2.1 (.inl 84) 0)))) (fun j2 => (x_h (f67 j2 (h.2.1 (.inl 86) (Int32.toNatClampNeg (h.2.1 (.inl 84) 0))) (h.2.1 (.inl 87) (Int32.toNatClampNeg (h.2.1 (.inl 84) 0))) (h.2.1 (.inl 89) (Int32.toNatClampNeg (h.2.1 (.inl 84) 0))) h) (fun h4 => (mx_uI (mx_uI h4 (.inl 84) 0 ((h4.2.1 (.inl 84) 0) + 1)) (.inl 84) 1 (((mx_uI h4 (.inl 84) 0 ((h4.2.1 (.inl 84) 0) + 1)).2.1 (.inl 84) 1) - 1))))) h)) (mx_uI (mx_uI h (.inl 84) 0 ((h.2.1 (.inl 84) 0) + 1)) (.inl 84) 1 (((mx_uI h (.inl 84) 0 ((h.2.1 (.inl 84) 0) + 1)).2.1 (.inl 84) 1) - 1))) else h)) := x_box_eq _
theorem x20 {E : mx_Ev} {n : Nat} {h : mx_H} {Q : Option mx_V → mx_H → Prop} (hK : (xK_v Q) (f20  h)) : mx_M E n 20 [.inr (.inl 84)] h Q := by
  cases n with
  | zero => exact mx_L.zero
  | succ n => exact sl20_0 (x_use (x_eq (K := (xK_v Q)) (f20_eq  h) hK) (fun hK => (x_ite hK (fun hK => hK) (fun hK => (x_ite hK (fun hK => (fun _ => (x_ref hK (fun j1 hK => (fun _ => (x_ref hK (fun j2 hK => (fun _ => (fun _ => (fun _ => (x67 (xh_n (x_hk hK (fun hK => hK)))))))) (fun hK => (fun _ => (fun _ => (fun _ => True.intro))))))) (fun hK => hK)))) (fun hK => hK))))))
noncomputable def b32 : ((Nat × Int32 × Int32 × mx_H)) → ((Nat × Int32 × Int32 × mx_H)) ⊕ (Int32 × mx_H)
  | (a0, a3, a4, h) => (if a4 ≤ 0 then (Sum.inr ((a3 : Int32), h)) else (if (lg_cmp (h.2.2.1 (.inr (a0, 35)) (Int32.toNatClampNeg a4)) 0) ≠ 0 then (Sum.inr ((a3 : Int32), h)) else (Sum.inl (a0, (a3 + 1), (a4 + (-1)), h))))
noncomputable def g32_14 (a0 : Nat) (a3 : Int32) (a4 : Int32) (h : mx_H) : Int32 × mx_H := ml_wh b32 (a0, a3, a4, h)
theorem g32_14_eq (a0 : Nat) (a3 : Int32) (a4 : Int32) (h : mx_H) : g32_14 a0 a3 a4 h = (if a4 ≤ 0 then ((a3 : Int32), h) else (if (lg_cmp (h.2.2.1 (.inr (a0, 35)) (Int32.toNatClampNeg a4)) 0) ≠ 0 then ((a3 : Int32), h) else (g32_14 a0 (a3 + 1) (a4 + (-1)) h))) := by
  unfold g32_14
  rw [ml_wh_eq]
  simp only [b32, ml_go_ite, ml_go_l, ml_go_r, ml_go_opt, ml_go_let, ml_go_h, ml_go_val]
  try rfl
noncomputable def f32 (t0 : Nat) (a1 : Int32) (a2 : Int32) (h : mx_H) : Int32 × mx_H := x_box (x_h (f29 t0 a1 a2 h) (fun h2 => (g32_14 t0 0 (h2.2.1 (.inr (t0, 30)) 7) h2)))
theorem f32_eq (t0 : Nat) (a1 : Int32) (a2 : Int32) (h : mx_H) : f32 t0 a1 a2 h = (x_h (f29 t0 a1 a2 h) (fun h2 => (g32_14 t0 0 (h2.2.1 (.inr (t0, 30)) 7) h2))) := x_box_eq _
theorem xw32 {E : mx_Ev} {Q : Option mx_V → mx_H → Prop} : ∀ n : Nat, (∀ (a0 : Nat) (a3 : Int32) (a4 : Int32) (h : mx_H), (xK_i Q) (g32_14 a0 a3 a4 h) → mx_L E n 32 14 [(0, .inr (.inr (a0, 30))), (3, .inl (.int a3)), (4, .inl (.int a4))] [] h Q)
  | 0 => fun _ _ _ _ _ => mx_L.zero
  | n + 1 => fun a0 a3 a4 h hK => sl32_14 (x_use (x_eq (K := (xK_i Q)) (g32_14_eq a0 a3 a4 h) hK) (fun hK => (x_ite hK (fun hK => hK) (fun hK => (fun _ => (x_ite hK (fun hK => hK) (fun hK => ((xw32 n) _ _ _ _ hK))))))))
theorem x32 {E : mx_Ev} {n : Nat} {h : mx_H} {Q : Option mx_V → mx_H → Prop} {t0 : Nat} {a1 : Int32} {a2 : Int32} (hK : (xK_i Q) (f32 t0 a1 a2 h)) : mx_M E n 32 [.inr (.inr (t0, 30)), .inl (.int a1), .inl (.int a2)] h Q := by
  cases n with
  | zero => exact mx_L.zero
  | succ n => exact sl32_0 (x_use (x_eq (K := (xK_i Q)) (f32_eq t0 a1 a2 h) hK) (fun hK => (x29 (xh_n (x_hk hK (fun hK => ((xw32 n) _ _ _ _ hK)))))))
noncomputable def b35 : ((Nat × Int64 × Int32 × mx_H)) → ((Nat × Int64 × Int32 × mx_H)) ⊕ (Int64)
  | (a0, a1, a3, h) => (if (h.2.1 (.inr (a0, 30)) 7) ≤ a3 then (Sum.inr (a1 : Int64)) else (Sum.inl (a0, (a1 * (Int32.toInt64 (h.2.1 (.inr (a0, 31)) (Int32.toNatClampNeg (h.2.1 (.inr (a0, 36)) (Int32.toNatClampNeg a3)))))), (a3 + 1), h)))
noncomputable def g35_4 (a0 : Nat) (a1 : Int64) (a3 : Int32) (h : mx_H) : Int64 := ml_wh b35 (a0, a1, a3, h)
theorem g35_4_eq (a0 : Nat) (a1 : Int64) (a3 : Int32) (h : mx_H) : g35_4 a0 a1 a3 h = (if (h.2.1 (.inr (a0, 30)) 7) ≤ a3 then (a1 : Int64) else (g35_4 a0 (a1 * (Int32.toInt64 (h.2.1 (.inr (a0, 31)) (Int32.toNatClampNeg (h.2.1 (.inr (a0, 36)) (Int32.toNatClampNeg a3)))))) (a3 + 1) h)) := by
  unfold g35_4
  rw [ml_wh_eq]
  simp only [b35, ml_go_ite, ml_go_l, ml_go_r, ml_go_opt, ml_go_let, ml_go_h, ml_go_val]
  try rfl
noncomputable def f35 (t0 : Nat) (h : mx_H) : Int64 := x_box (g35_4 t0 1 0 h)
theorem f35_eq (t0 : Nat) (h : mx_H) : f35 t0 h = (g35_4 t0 1 0 h) := x_box_eq _
theorem xw35 {E : mx_Ev} {Q : Option mx_V → mx_H → Prop} : ∀ n : Nat, (∀ (a0 : Nat) (a1 : Int64) (a3 : Int32) (h : mx_H), (xK_lp Q h) (g35_4 a0 a1 a3 h) → mx_L E n 35 4 [(0, .inr (.inr (a0, 30))), (1, .inl (.long a1)), (3, .inl (.int a3))] [] h Q)
  | 0 => fun _ _ _ _ _ => mx_L.zero
  | n + 1 => fun a0 a1 a3 h hK => sl35_4 (x_use (x_eq (K := (xK_lp Q h)) (g35_4_eq a0 a1 a3 h) hK) (fun hK => (x_ite hK (fun hK => hK) (fun hK => (fun _ => (fun _ => ((xw35 n) _ _ _ _ hK)))))))
theorem x35 {E : mx_Ev} {n : Nat} {h : mx_H} {Q : Option mx_V → mx_H → Prop} {t0 : Nat} (hK : (xK_lp Q h) (f35 t0 h)) : mx_M E n 35 [.inr (.inr (t0, 30))] h Q := by
  cases n with
  | zero => exact mx_L.zero
  | succ n => exact sl35_0 (x_use (x_eq (K := (xK_lp Q h)) (f35_eq t0 h) hK) (fun hK => ((xw35 n) _ _ _ _ hK)))
noncomputable def b34 : ((Nat × Nat × Int32 × mx_H)) → ((Nat × Nat × Int32 × mx_H)) ⊕ (Int32 × mx_H)
  | (a0, a1, a2, h) => (if 6 < a2 then (Sum.inr ((1 : Int32), h)) else (x_h (f29 a0 a2 1 h) (fun h2 => (x_h (f29 a1 a2 1 h2) (fun h4 => (if (h4.2.1 (.inr (a0, 30)) 7) = (h4.2.1 (.inr (a1, 30)) 7) then (if (lg_cmp ((h4.2.2.1 (.inr (a0, 35)) (Int32.toNatClampNeg (h4.2.1 (.inr (a0, 30)) 7))) * (f35 a1 h4)) ((h4.2.2.1 (.inr (a1, 35)) (Int32.toNatClampNeg (h4.2.1 (.inr (a0, 30)) 7))) * (f35 a0 h4))) = 0 then (Sum.inl (a0, a1, (a2 + 1), h4)) else (Sum.inr ((0 : Int32), h4))) else (Sum.inr ((0 : Int32), h4))))))))
noncomputable def g34_2 (a0 : Nat) (a1 : Nat) (a2 : Int32) (h : mx_H) : Int32 × mx_H := ml_wh b34 (a0, a1, a2, h)
theorem g34_2_eq (a0 : Nat) (a1 : Nat) (a2 : Int32) (h : mx_H) : g34_2 a0 a1 a2 h = (if 6 < a2 then ((1 : Int32), h) else (x_h (f29 a0 a2 1 h) (fun h2 => (x_h (f29 a1 a2 1 h2) (fun h4 => (if (h4.2.1 (.inr (a0, 30)) 7) = (h4.2.1 (.inr (a1, 30)) 7) then (if (lg_cmp ((h4.2.2.1 (.inr (a0, 35)) (Int32.toNatClampNeg (h4.2.1 (.inr (a0, 30)) 7))) * (f35 a1 h4)) ((h4.2.2.1 (.inr (a1, 35)) (Int32.toNatClampNeg (h4.2.1 (.inr (a0, 30)) 7))) * (f35 a0 h4))) = 0 then (g34_2 a0 a1 (a2 + 1) h4) else ((0 : Int32), h4)) else ((0 : Int32), h4))))))) := by
  unfold g34_2
  rw [ml_wh_eq]
  simp only [b34, ml_go_ite, ml_go_l, ml_go_r, ml_go_opt, ml_go_let, ml_go_h, ml_go_val]
  try rfl
noncomputable def f34 (t0 : Nat) (a1 : Nat) (h : mx_H) : Int32 × mx_H := x_box (g34_2 t0 a1 0 h)
theorem f34_eq (t0 : Nat) (a1 : Nat) (h : mx_H) : f34 t0 a1 h = (g34_2 t0 a1 0 h) := x_box_eq _
theorem xw34 {E : mx_Ev} {Q : Option mx_V → mx_H → Prop} : ∀ n : Nat, (∀ (a0 : Nat) (a1 : Nat) (a2 : Int32) (h : mx_H), (xK_i Q) (g34_2 a0 a1 a2 h) → mx_L E n 34 2 [(0, .inr (.inr (a0, 30))), (1, .inr (.inr (a1, 30))), (2, .inl (.int a2))] [] h Q)
  | 0 => fun _ _ _ _ _ => mx_L.zero
  | n + 1 => fun a0 a1 a2 h hK => sl34_2 (x_use (x_eq (K := (xK_i Q)) (g34_2_eq a0 a1 a2 h) hK) (fun hK => (x_ite hK (fun hK => (fun _ => hK)) (fun hK => (x29 (xh_n (x_hk hK (fun hK => (x29 (xh_n (x_hk hK (fun hK => (x_ite hK (fun hK => (fun _ => (x35 (xh_l (fun _ => (x35 (xh_l (x_ite hK (fun hK => ((xw34 n) _ _ _ _ hK)) (fun hK => (fun _ => hK)))))))))) (fun hK => (fun _ => hK)))))))))))))))
theorem x34 {E : mx_Ev} {n : Nat} {h : mx_H} {Q : Option mx_V → mx_H → Prop} {t0 : Nat} {a1 : Nat} (hK : (xK_i Q) (f34 t0 a1 h)) : mx_M E n 34 [.inr (.inr (t0, 30)), .inr (.inr (a1, 30))] h Q := by
  cases n with
  | zero => exact mx_L.zero
  | succ n => exact sl34_0 (x_use (x_eq (K := (xK_i Q)) (f34_eq t0 a1 h) hK) (fun hK => ((xw34 n) _ _ _ _ hK)))
noncomputable def f37 (a1 : Int32) (a2 : Nat) (h : mx_H) : Int32 × mx_H := x_box (if (h.2.1 (.inl 90) 0) < 200 then ((((mx_uI (mx_uR (mx_uI h (.inl 91) (Int32.toNatClampNeg (h.2.1 (.inl 90) 0)) a1) (.inl 92) (Int32.toNatClampNeg ((mx_uI h (.inl 91) (Int32.toNatClampNeg (h.2.1 (.inl 90) 0)) a1).2.1 (.inl 90) 0)) (some (.inr (a2, 0)))) (.inl 90) 0 (((mx_uR (mx_uI h (.inl 91) (Int32.toNatClampNeg (h.2.1 (.inl 90) 0)) a1) (.inl 92) (Int32.toNatClampNeg ((mx_uI h (.inl 91) (Int32.toNatClampNeg (h.2.1 (.inl 90) 0)) a1).2.1 (.inl 90) 0)) (some (.inr (a2, 0)))).2.1 (.inl 90) 0) + 1)).2.1 (.inl 90) 0) - 1 : Int32), mx_uI (mx_uR (mx_uI h (.inl 91) (Int32.toNatClampNeg (h.2.1 (.inl 90) 0)) a1) (.inl 92) (Int32.toNatClampNeg ((mx_uI h (.inl 91) (Int32.toNatClampNeg (h.2.1 (.inl 90) 0)) a1).2.1 (.inl 90) 0)) (some (.inr (a2, 0)))) (.inl 90) 0 (((mx_uR (mx_uI h (.inl 91) (Int32.toNatClampNeg (h.2.1 (.inl 90) 0)) a1) (.inl 92) (Int32.toNatClampNeg ((mx_uI h (.inl 91) (Int32.toNatClampNeg (h.2.1 (.inl 90) 0)) a1).2.1 (.inl 90) 0)) (some (.inr (a2, 0)))).2.1 (.inl 90) 0) + 1)) else (((-3) : Int32), h))
theorem f37_eq (a1 : Int32) (a2 : Nat) (h : mx_H) : f37 a1 a2 h = (if (h.2.1 (.inl 90) 0) < 200 then ((((mx_uI (mx_uR (mx_uI h (.inl 91) (Int32.toNatClampNeg (h.2.1 (.inl 90) 0)) a1) (.inl 92) (Int32.toNatClampNeg ((mx_uI h (.inl 91) (Int32.toNatClampNeg (h.2.1 (.inl 90) 0)) a1).2.1 (.inl 90) 0)) (some (.inr (a2, 0)))) (.inl 90) 0 (((mx_uR (mx_uI h (.inl 91) (Int32.toNatClampNeg (h.2.1 (.inl 90) 0)) a1) (.inl 92) (Int32.toNatClampNeg ((mx_uI h (.inl 91) (Int32.toNatClampNeg (h.2.1 (.inl 90) 0)) a1).2.1 (.inl 90) 0)) (some (.inr (a2, 0)))).2.1 (.inl 90) 0) + 1)).2.1 (.inl 90) 0) - 1 : Int32), mx_uI (mx_uR (mx_uI h (.inl 91) (Int32.toNatClampNeg (h.2.1 (.inl 90) 0)) a1) (.inl 92) (Int32.toNatClampNeg ((mx_uI h (.inl 91) (Int32.toNatClampNeg (h.2.1 (.inl 90) 0)) a1).2.1 (.inl 90) 0)) (some (.inr (a2, 0)))) (.inl 90) 0 (((mx_uR (mx_uI h (.inl 91) (Int32.toNatClampNeg (h.2.1 (.inl 90) 0)) a1) (.inl 92) (Int32.toNatClampNeg ((mx_uI h (.inl 91) (Int32.toNatClampNeg (h.2.1 (.inl 90) 0)) a1).2.1 (.inl 90) 0)) (some (.inr (a2, 0)))).2.1 (.inl 90) 0) + 1)) else (((-3) : Int32), h)) := x_box_eq _
theorem x37 {E : mx_Ev} {n : Nat} {h : mx_H} {Q : Option mx_V → mx_H → Prop} {a1 : Int32} {a2 : Nat} (hK : (xK_i Q) (f37 a1 a2 h)) : mx_M E n 37 [.inr (.inl 90), .inl (.int a1), .inr (.inr (a2, 0))] h Q := by
  cases n with
  | zero => exact mx_L.zero
  | succ n => exact sl37_0 (x_use (x_eq (K := (xK_i Q)) (f37_eq a1 a2 h) hK) (fun hK => (x_ite hK (fun hK => (fun _ => (fun _ => hK))) (fun hK => hK))))
noncomputable def f37_null (a1 : Int32) (h : mx_H) : Int32 × mx_H := x_box (if (h.2.1 (.inl 90) 0) < 200 then ((((mx_uI (mx_uR (mx_uI h (.inl 91) (Int32.toNatClampNeg (h.2.1 (.inl 90) 0)) a1) (.inl 92) (Int32.toNatClampNeg ((mx_uI h (.inl 91) (Int32.toNatClampNeg (h.2.1 (.inl 90) 0)) a1).2.1 (.inl 90) 0)) none) (.inl 90) 0 (((mx_uR (mx_uI h (.inl 91) (Int32.toNatClampNeg (h.2.1 (.inl 90) 0)) a1) (.inl 92) (Int32.toNatClampNeg ((mx_uI h (.inl 91) (Int32.toNatClampNeg (h.2.1 (.inl 90) 0)) a1).2.1 (.inl 90) 0)) none).2.1 (.inl 90) 0) + 1)).2.1 (.inl 90) 0) - 1 : Int32), mx_uI (mx_uR (mx_uI h (.inl 91) (Int32.toNatClampNeg (h.2.1 (.inl 90) 0)) a1) (.inl 92) (Int32.toNatClampNeg ((mx_uI h (.inl 91) (Int32.toNatClampNeg (h.2.1 (.inl 90) 0)) a1).2.1 (.inl 90) 0)) none) (.inl 90) 0 (((mx_uR (mx_uI h (.inl 91) (Int32.toNatClampNeg (h.2.1 (.inl 90) 0)) a1) (.inl 92) (Int32.toNatClampNeg ((mx_uI h (.inl 91) (Int32.toNatClampNeg (h.2.1 (.inl 90) 0)) a1).2.1 (.inl 90) 0)) none).2.1 (.inl 90) 0) + 1)) else (((-3) : Int32), h))
theorem f37_null_eq (a1 : Int32) (h : mx_H) : f37_null a1 h = (if (h.2.1 (.inl 90) 0) < 200 then ((((mx_uI (mx_uR (mx_uI h (.inl 91) (Int32.toNatClampNeg (h.2.1 (.inl 90) 0)) a1) (.inl 92) (Int32.toNatClampNeg ((mx_uI h (.inl 91) (Int32.toNatClampNeg (h.2.1 (.inl 90) 0)) a1).2.1 (.inl 90) 0)) none) (.inl 90) 0 (((mx_uR (mx_uI h (.inl 91) (Int32.toNatClampNeg (h.2.1 (.inl 90) 0)) a1) (.inl 92) (Int32.toNatClampNeg ((mx_uI h (.inl 91) (Int32.toNatClampNeg (h.2.1 (.inl 90) 0)) a1).2.1 (.inl 90) 0)) none).2.1 (.inl 90) 0) + 1)).2.1 (.inl 90) 0) - 1 : Int32), mx_uI (mx_uR (mx_uI h (.inl 91) (Int32.toNatClampNeg (h.2.1 (.inl 90) 0)) a1) (.inl 92) (Int32.toNatClampNeg ((mx_uI h (.inl 91) (Int32.toNatClampNeg (h.2.1 (.inl 90) 0)) a1).2.1 (.inl 90) 0)) none) (.inl 90) 0 (((mx_uR (mx_uI h (.inl 91) (Int32.toNatClampNeg (h.2.1 (.inl 90) 0)) a1) (.inl 92) (Int32.toNatClampNeg ((mx_uI h (.inl 91) (Int32.toNatClampNeg (h.2.1 (.inl 90) 0)) a1).2.1 (.inl 90) 0)) none).2.1 (.inl 90) 0) + 1)) else (((-3) : Int32), h)) := x_box_eq _
theorem x37_null {E : mx_Ev} {n : Nat} {h : mx_H} {Q : Option mx_V → mx_H → Prop} {a1 : Int32} (hK : (xK_i Q) (f37_null a1 h)) : mx_M E n 37 [.inr (.inl 90), .inl (.int a1), .inl .null] h Q := by
  cases n with
  | zero => exact mx_L.zero
  | succ n => exact sl37_null_0 (x_use (x_eq (K := (xK_i Q)) (f37_null_eq a1 h) hK) (fun hK => (x_ite hK (fun hK => (fun _ => (fun _ => hK))) (fun hK => hK))))
noncomputable def b38 : ((Int32 × Int32 × Int32 × mx_H)) → ((Int32 × Int32 × Int32 × mx_H)) ⊕ (Int32)
  | (a1, a2, a3, h) => (if (Int32.ofNat (6)) ≤ a3 then (Sum.inr (0 : Int32)) else (if a2 < 0 then (Sum.inr (0 : Int32)) else (if a2 ≠ a1 then (Sum.inl (a1, (mx_k0 (Int32.toNatClampNeg a2)), (a3 + 1), h)) else (Sum.inr (1 : Int32)))))
noncomputable def g38_4 (a1 : Int32) (a2 : Int32) (a3 : Int32) (h : mx_H) : Int32 := ml_wh b38 (a1, a2, a3, h)
theorem g38_4_eq (a1 : Int32) (a2 : Int32) (a3 : Int32) (h : mx_H) : g38_4 a1 a2 a3 h = (if (Int32.ofNat (6)) ≤ a3 then (0 : Int32) else (if a2 < 0 then (0 : Int32) else (if a2 ≠ a1 then (g38_4 a1 (mx_k0 (Int32.toNatClampNeg a2)) (a3 + 1) h) else (1 : Int32)))) := by
  unfold g38_4
  rw [ml_wh_eq]
  simp only [b38, ml_go_ite, ml_go_l, ml_go_r, ml_go_opt, ml_go_let, ml_go_h, ml_go_val]
  try rfl
noncomputable def f38 (a0 : Int32) (a1 : Int32) (h : mx_H) : Int32 := x_box (g38_4 a1 a0 0 h)
theorem f38_eq (a0 : Int32) (a1 : Int32) (h : mx_H) : f38 a0 a1 h = (g38_4 a1 a0 0 h) := x_box_eq _
theorem xw38 {E : mx_Ev} {Q : Option mx_V → mx_H → Prop} : ∀ n : Nat, (∀ (a1 : Int32) (a2 : Int32) (a3 : Int32) (h : mx_H), (xK_ip Q h) (g38_4 a1 a2 a3 h) → mx_L E n 38 4 [(1, .inl (.int a1)), (2, .inl (.int a2)), (3, .inl (.int a3))] [] h Q)
  | 0 => fun _ _ _ _ _ => mx_L.zero
  | n + 1 => fun a1 a2 a3 h hK => sl38_4 (x_use (x_eq (K := (xK_ip Q h)) (g38_4_eq a1 a2 a3 h) hK) (fun hK => (x_ite hK (fun hK => (fun _ => hK)) (fun hK => (x_ite hK (fun hK => (fun _ => hK)) (fun hK => (x_ite hK (fun hK => (fun _ => ((xw38 n) _ _ _ _ hK))) (fun hK => (fun _ => hK)))))))))
theorem x38 {E : mx_Ev} {n : Nat} {h : mx_H} {Q : Option mx_V → mx_H → Prop} {a0 : Int32} {a1 : Int32} (hK : (xK_ip Q h) (f38 a0 a1 h)) : mx_M E n 38 [.inl (.int a0), .inl (.int a1)] h Q := by
  cases n with
  | zero => exact mx_L.zero
  | succ n => exact sl38_0 (x_use (x_eq (K := (xK_ip Q h)) (f38_eq a0 a1 h) hK) (fun hK => ((xw38 n) _ _ _ _ hK)))
noncomputable def f157 (a0 : Int32) (a1 : Int32) (a2 : Int32) : Int32 := x_box (if a0 < a1 then (0 : Int32) else (if a2 < a0 then (0 : Int32) else (1 : Int32)))
theorem f157_eq (a0 : Int32) (a1 : Int32) (a2 : Int32) : f157 a0 a1 a2 = (if a0 < a1 then (0 : Int32) else (if a2 < a0 then (0 : Int32) else (1 : Int32))) := x_box_eq _
theorem x157 {E : mx_Ev} {n : Nat} {h : mx_H} {Q : Option mx_V → mx_H → Prop} {a0 : Int32} {a1 : Int32} {a2 : Int32} (hK : (xK_ip Q h) (f157 a0 a1 a2)) : mx_M E n 157 [.inl (.int a0), .inl (.int a1), .inl (.int a2)] h Q := by
  cases n with
  | zero => exact mx_L.zero
  | succ n => exact sl157_0 (x_use (x_eq (K := (xK_ip Q h)) (f157_eq a0 a1 a2) hK) (fun hK => (x_ite hK (fun hK => (fun _ => hK)) (fun hK => (x_ite hK (fun hK => (fun _ => hK)) (fun hK => (fun _ => hK)))))))
noncomputable def f39 (a1 : Int32) (h : mx_H) : Int32 := x_box (x_opt (ml_sn (h.2.2.2 (.inl 92) (Int32.toNatClampNeg a1))) (fun j1 => (if (f157 (a1 - (h.2.1 (.inr (j1, 0)) 5)) 0 ((h.2.1 (.inr (j1, 0)) 6) - 1)) = 0 then (0 : Int32) else (h.2.1 (.inr (j1, 7)) (Int32.toNatClampNeg (a1 - (h.2.1 (.inr (j1, 0)) 5))) : Int32))) (0 : Int32))
theorem f39_eq (a1 : Int32) (h : mx_H) : f39 a1 h = (x_opt (ml_sn (h.2.2.2 (.inl 92) (Int32.toNatClampNeg a1))) (fun j1 => (if (f157 (a1 - (h.2.1 (.inr (j1, 0)) 5)) 0 ((h.2.1 (.inr (j1, 0)) 6) - 1)) = 0 then (0 : Int32) else (h.2.1 (.inr (j1, 7)) (Int32.toNatClampNeg (a1 - (h.2.1 (.inr (j1, 0)) 5))) : Int32))) (0 : Int32)) := x_box_eq _
theorem x39 {E : mx_Ev} {n : Nat} {h : mx_H} {Q : Option mx_V → mx_H → Prop} {a1 : Int32} (hK : (xK_ip Q h) (f39 a1 h)) : mx_M E n 39 [.inr (.inl 90), .inl (.int a1)] h Q := by
  cases n with
  | zero => exact mx_L.zero
  | succ n => exact sl39_0 (x_use (x_eq (K := (xK_ip Q h)) (f39_eq a1 h) hK) (fun hK => (fun _ => (x_ref hK (fun j1 hK => (x157 (xh_i (x_ite hK (fun hK => hK) (fun hK => (fun _ => hK)))))) (fun hK => hK)))))
noncomputable def f41 (a1 : Int32) (h : mx_H) : mx_H := x_box (if 24 ≤ (h.2.1 (.inl 90) 3) then (mx_uI h (.inl 90) 3 ((h.2.1 (.inl 90) 3) + 1)) else (mx_uI (mx_uI h (.inl 93) (Int32.toNatClampNeg (h.2.1 (.inl 90) 3)) a1) (.inl 90) 3 (((mx_uI h (.inl 93) (Int32.toNatClampNeg (h.2.1 (.inl 90) 3)) a1).2.1 (.inl 90) 3) + 1)))
theorem f41_eq (a1 : Int32) (h : mx_H) : f41 a1 h = (if 24 ≤ (h.2.1 (.inl 90) 3) then (mx_uI h (.inl 90) 3 ((h.2.1 (.inl 90) 3) + 1)) else (mx_uI (mx_uI h (.inl 93) (Int32.toNatClampNeg (h.2.1 (.inl 90) 3)) a1) (.inl 90) 3 (((mx_uI h (.inl 93) (Int32.toNatClampNeg (h.2.1 (.inl 90) 3)) a1).2.1 (.inl 90) 3) + 1))) := x_box_eq _
theorem x41 {E : mx_Ev} {n : Nat} {h : mx_H} {Q : Option mx_V → mx_H → Prop} {a1 : Int32} (hK : (xK_v Q) (f41 a1 h)) : mx_M E n 41 [.inr (.inl 90), .inl (.int a1)] h Q := by
  cases n with
  | zero => exact mx_L.zero
  | succ n => exact sl41_0 (x_use (x_eq (K := (xK_v Q)) (f41_eq a1 h) hK) (fun hK => (x_ite hK (fun hK => hK) (fun hK => (fun _ => hK)))))
noncomputable def b43 : ((Int32 × Int32 × Int32 × mx_H)) → ((Int32 × Int32 × Int32 × mx_H)) ⊕ (Int32)
  | (a1, a2, a3, h) => (if (h.2.1 (.inl 60) 1) ≤ a3 then (Sum.inr (0 : Int32)) else (if (h.2.1 (.inl 61) (Int32.toNatClampNeg a3)) ≠ a1 then (Sum.inl (a1, a2, (a3 + 1), h)) else (if (h.2.1 (.inl 62) (Int32.toNatClampNeg a3)) ≠ a2 then (Sum.inl (a1, a2, (a3 + 1), h)) else (Sum.inr (1 : Int32)))))
noncomputable def g43_2 (a1 : Int32) (a2 : Int32) (a3 : Int32) (h : mx_H) : Int32 := ml_wh b43 (a1, a2, a3, h)
theorem g43_2_eq (a1 : Int32) (a2 : Int32) (a3 : Int32) (h : mx_H) : g43_2 a1 a2 a3 h = (if (h.2.1 (.inl 60) 1) ≤ a3 then (0 : Int32) else (if (h.2.1 (.inl 61) (Int32.toNatClampNeg a3)) ≠ a1 then (g43_2 a1 a2 (a3 + 1) h) else (if (h.2.1 (.inl 62) (Int32.toNatClampNeg a3)) ≠ a2 then (g43_2 a1 a2 (a3 + 1) h) else (1 : Int32)))) := by
  unfold g43_2
  rw [ml_wh_eq]
  simp only [b43, ml_go_ite, ml_go_l, ml_go_r, ml_go_opt, ml_go_let, ml_go_h, ml_go_val]
  try rfl
noncomputable def f43 (a1 : Int32) (a2 : Int32) (h : mx_H) : Int32 := x_box (g43_2 a1 a2 0 h)
theorem f43_eq (a1 : Int32) (a2 : Int32) (h : mx_H) : f43 a1 a2 h = (g43_2 a1 a2 0 h) := x_box_eq _
theorem xw43 {E : mx_Ev} {Q : Option mx_V → mx_H → Prop} : ∀ n : Nat, (∀ (a1 : Int32) (a2 : Int32) (a3 : Int32) (h : mx_H), (xK_ip Q h) (g43_2 a1 a2 a3 h) → mx_L E n 43 2 [(0, .inr (.inl 60)), (1, .inl (.int a1)), (2, .inl (.int a2)), (3, .inl (.int a3))] [] h Q)
  | 0 => fun _ _ _ _ _ => mx_L.zero
  | n + 1 => fun a1 a2 a3 h hK => sl43_2 (x_use (x_eq (K := (xK_ip Q h)) (g43_2_eq a1 a2 a3 h) hK) (fun hK => (x_ite hK (fun hK => (fun _ => hK)) (fun hK => (fun _ => (x_ite hK (fun hK => ((xw43 n) _ _ _ _ hK)) (fun hK => (fun _ => (x_ite hK (fun hK => ((xw43 n) _ _ _ _ hK)) (fun hK => (fun _ => hK)))))))))))
theorem x43 {E : mx_Ev} {n : Nat} {h : mx_H} {Q : Option mx_V → mx_H → Prop} {a1 : Int32} {a2 : Int32} (hK : (xK_ip Q h) (f43 a1 a2 h)) : mx_M E n 43 [.inr (.inl 60), .inl (.int a1), .inl (.int a2)] h Q := by
  cases n with
  | zero => exact mx_L.zero
  | succ n => exact sl43_0 (x_use (x_eq (K := (xK_ip Q h)) (f43_eq a1 a2 h) hK) (fun hK => ((xw43 n) _ _ _ _ hK)))
noncomputable def f44 (a1 : Int32) (a2 : Int32) (a3 : Int32) (h : mx_H) : mx_H := x_box (if (h.2.1 (.inl 60) 1) < 6 then (mx_uI (mx_uI (mx_uI (mx_uI h (.inl 61) (Int32.toNatClampNeg (h.2.1 (.inl 60) 1)) a1) (.inl 62) (Int32.toNatClampNeg ((mx_uI h (.inl 61) (Int32.toNatClampNeg (h.2.1 (.inl 60) 1)) a1).2.1 (.inl 60) 1)) a2) (.inl 63) (Int32.toNatClampNeg ((mx_uI (mx_uI h (.inl 61) (Int32.toNatClampNeg (h.2.1 (.inl 60) 1)) a1) (.inl 62) (Int32.toNatClampNeg ((mx_uI h (.inl 61) (Int32.toNatClampNeg (h.2.1 (.inl 60) 1)) a1).2.1 (.inl 60) 1)) a2).2.1 (.inl 60) 1)) a3) (.inl 60) 1 (((mx_uI (mx_uI (mx_uI h (.inl 61) (Int32.toNatClampNeg (h.2.1 (.inl 60) 1)) a1) (.inl 62) (Int32.toNatClampNeg ((mx_uI h (.inl 61) (Int32.toNatClampNeg (h.2.1 (.inl 60) 1)) a1).2.1 (.inl 60) 1)) a2) (.inl 63) (Int32.toNatClampNeg ((mx_uI (mx_uI h (.inl 61) (Int32.toNatClampNeg (h.2.1 (.inl 60) 1)) a1) (.inl 62) (Int32.toNatClampNeg ((mx_uI h (.inl 61) (Int32.toNatClampNeg (h.2.1 (.inl 60) 1)) a1).2.1 (.inl 60) 1)) a2).2.1 (.inl 60) 1)) a3).2.1 (.inl 60) 1) + 1)) else h)
theorem f44_eq (a1 : Int32) (a2 : Int32) (a3 : Int32) (h : mx_H) : f44 a1 a2 a3 h = (if (h.2.1 (.inl 60) 1) < 6 then (mx_uI (mx_uI (mx_uI (mx_uI h (.inl 61) (Int32.toNatClampNeg (h.2.1 (.inl 60) 1)) a1) (.inl 62) (Int32.toNatClampNeg ((mx_uI h (.inl 61) (Int32.toNatClampNeg (h.2.1 (.inl 60) 1)) a1).2.1 (.inl 60) 1)) a2) (.inl 63) (Int32.toNatClampNeg ((mx_uI (mx_uI h (.inl 61) (Int32.toNatClampNeg (h.2.1 (.inl 60) 1)) a1) (.inl 62) (Int32.toNatClampNeg ((mx_uI h (.inl 61) (Int32.toNatClampNeg (h.2.1 (.inl 60) 1)) a1).2.1 (.inl 60) 1)) a2).2.1 (.inl 60) 1)) a3) (.inl 60) 1 (((mx_uI (mx_uI (mx_uI h (.inl 61) (Int32.toNatClampNeg (h.2.1 (.inl 60) 1)) a1) (.inl 62) (Int32.toNatClampNeg ((mx_uI h (.inl 61) (Int32.toNatClampNeg (h.2.1 (.inl 60) 1)) a1).2.1 (.inl 60) 1)) a2) (.inl 63) (Int32.toNatClampNeg ((mx_uI (mx_uI h (.inl 61) (Int32.toNatClampNeg (h.2.1 (.inl 60) 1)) a1) (.inl 62) (Int32.toNatClampNeg ((mx_uI h (.inl 61) (Int32.toNatClampNeg (h.2.1 (.inl 60) 1)) a1).2.1 (.inl 60) 1)) a2).2.1 (.inl 60) 1)) a3).2.1 (.inl 60) 1) + 1)) else h) := x_box_eq _
theorem x44 {E : mx_Ev} {n : Nat} {h : mx_H} {Q : Option mx_V → mx_H → Prop} {a1 : Int32} {a2 : Int32} {a3 : Int32} (hK : (xK_v Q) (f44 a1 a2 a3 h)) : mx_M E n 44 [.inr (.inl 60), .inl (.int a1), .inl (.int a2), .inl (.int a3)] h Q := by
  cases n with
  | zero => exact mx_L.zero
  | succ n => exact sl44_0 (x_use (x_eq (K := (xK_v Q)) (f44_eq a1 a2 a3 h) hK) (fun hK => (x_ite hK (fun hK => (fun _ => (fun _ => (fun _ => hK)))) (fun hK => hK))))
noncomputable def b45 : ((Int32 × Int32 × Int32 × mx_H)) → ((Int32 × Int32 × Int32 × mx_H)) ⊕ (Int32)
  | (a1, a2, a3, h) => (if (h.2.1 (.inl 60) 5) ≤ a3 then (Sum.inr (0 : Int32)) else (if (h.2.1 (.inl 64) (Int32.toNatClampNeg a3)) ≠ a1 then (Sum.inl (a1, a2, (a3 + 1), h)) else (if (h.2.1 (.inl 65) (Int32.toNatClampNeg a3)) ≠ a2 then (Sum.inl (a1, a2, (a3 + 1), h)) else (Sum.inr (1 : Int32)))))
noncomputable def g45_2 (a1 : Int32) (a2 : Int32) (a3 : Int32) (h : mx_H) : Int32 := ml_wh b45 (a1, a2, a3, h)
theorem g45_2_eq (a1 : Int32) (a2 : Int32) (a3 : Int32) (h : mx_H) : g45_2 a1 a2 a3 h = (if (h.2.1 (.inl 60) 5) ≤ a3 then (0 : Int32) else (if (h.2.1 (.inl 64) (Int32.toNatClampNeg a3)) ≠ a1 then (g45_2 a1 a2 (a3 + 1) h) else (if (h.2.1 (.inl 65) (Int32.toNatClampNeg a3)) ≠ a2 then (g45_2 a1 a2 (a3 + 1) h) else (1 : Int32)))) := by
  unfold g45_2
  rw [ml_wh_eq]
  simp only [b45, ml_go_ite, ml_go_l, ml_go_r, ml_go_opt, ml_go_let, ml_go_h, ml_go_val]
  try rfl
noncomputable def f45 (a1 : Int32) (a2 : Int32) (h : mx_H) : Int32 := x_box (g45_2 a1 a2 0 h)
theorem f45_eq (a1 : Int32) (a2 : Int32) (h : mx_H) : f45 a1 a2 h = (g45_2 a1 a2 0 h) := x_box_eq _
theorem xw45 {E : mx_Ev} {Q : Option mx_V → mx_H → Prop} : ∀ n : Nat, (∀ (a1 : Int32) (a2 : Int32) (a3 : Int32) (h : mx_H), (xK_ip Q h) (g45_2 a1 a2 a3 h) → mx_L E n 45 2 [(0, .inr (.inl 60)), (1, .inl (.int a1)), (2, .inl (.int a2)), (3, .inl (.int a3))] [] h Q)
  | 0 => fun _ _ _ _ _ => mx_L.zero
  | n + 1 => fun a1 a2 a3 h hK => sl45_2 (x_use (x_eq (K := (xK_ip Q h)) (g45_2_eq a1 a2 a3 h) hK) (fun hK => (x_ite hK (fun hK => (fun _ => hK)) (fun hK => (fun _ => (x_ite hK (fun hK => ((xw45 n) _ _ _ _ hK)) (fun hK => (fun _ => (x_ite hK (fun hK => ((xw45 n) _ _ _ _ hK)) (fun hK => (fun _ => hK)))))))))))
theorem x45 {E : mx_Ev} {n : Nat} {h : mx_H} {Q : Option mx_V → mx_H → Prop} {a1 : Int32} {a2 : Int32} (hK : (xK_ip Q h) (f45 a1 a2 h)) : mx_M E n 45 [.inr (.inl 60), .inl (.int a1), .inl (.int a2)] h Q := by
  cases n with
  | zero => exact mx_L.zero
  | succ n => exact sl45_0 (x_use (x_eq (K := (xK_ip Q h)) (f45_eq a1 a2 h) hK) (fun hK => ((xw45 n) _ _ _ _ hK)))
/-! ===== methods as functions (10ze.x1) ===== -/
noncomputable def f46 (a1 : Int32) (a2 : Int32) (a3 : Int32) (h : mx_H) : mx_H := x_box (if (h.2.1 (.inl 60) 5) < 6 then (mx_uI (mx_uI (mx_uI (mx_uI h (.inl 64) (Int32.toNatClampNeg (h.2.1 (.inl 60) 5)) a1) (.inl 65) (Int32.toNatClampNeg ((mx_uI h (.inl 64) (Int32.toNatClampNeg (h.2.1 (.inl 60) 5)) a1).2.1 (.inl 60) 5)) a2) (.inl 66) (Int32.toNatClampNeg ((mx_uI (mx_uI h (.inl 64) (Int32.toNatClampNeg (h.2.1 (.inl 60) 5)) a1) (.inl 65) (Int32.toNatClampNeg ((mx_uI h (.inl 64) (Int32.toNatClampNeg (h.2.1 (.inl 60) 5)) a1).2.1 (.inl 60) 5)) a2).2.1 (.inl 60) 5)) a3) (.inl 60) 5 (((mx_uI (mx_uI (mx_uI h (.inl 64) (Int32.toNatClampNeg (h.2.1 (.inl 60) 5)) a1) (.inl 65) (Int32.toNatClampNeg ((mx_uI h (.inl 64) (Int32.toNatClampNeg (h.2.1 (.inl 60) 5)) a1).2.1 (.inl 60) 5)) a2) (.inl 66) (Int32.toNatClampNeg ((mx_uI (mx_uI h (.inl 64) (Int32.toNatClampNeg (h.2.1 (.inl 60) 5)) a1) (.inl 65) (Int32.toNatClampNeg ((mx_uI h (.inl 64) (Int32.toNatClampNeg (h.2.1 (.inl 60) 5)) a1).2.1 (.inl 60) 5)) a2).2.1 (.inl 60) 5)) a3).2.1 (.inl 60) 5) + 1)) else h)
theorem f46_eq (a1 : Int32) (a2 : Int32) (a3 : Int32) (h : mx_H) : f46 a1 a2 a3 h = (if (h.2.1 (.inl 60) 5) < 6 then (mx_uI (mx_uI (mx_uI (mx_uI h (.inl 64) (Int32.toNatClampNeg (h.2.1 (.inl 60) 5)) a1) (.inl 65) (Int32.toNatClampNeg ((mx_uI h (.inl 64) (Int32.toNatClampNeg (h.2.1 (.inl 60) 5)) a1).2.1 (.inl 60) 5)) a2) (.inl 66) (Int32.toNatClampNeg ((mx_uI (mx_uI h (.inl 64) (Int32.toNatClampNeg (h.2.1 (.inl 60) 5)) a1) (.inl 65) (Int32.toNatClampNeg ((mx_uI h (.inl 64) (Int32.toNatClampNeg (h.2.1 (.inl 60) 5)) a1).2.1 (.inl 60) 5)) a2).2.1 (.inl 60) 5)) a3) (.inl 60) 5 (((mx_uI (mx_uI (mx_uI h (.inl 64) (Int32.toNatClampNeg (h.2.1 (.inl 60) 5)) a1) (.inl 65) (Int32.toNatClampNeg ((mx_uI h (.inl 64) (Int32.toNatClampNeg (h.2.1 (.inl 60) 5)) a1).2.1 (.inl 60) 5)) a2) (.inl 66) (Int32.toNatClampNeg ((mx_uI (mx_uI h (.inl 64) (Int32.toNatClampNeg (h.2.1 (.inl 60) 5)) a1) (.inl 65) (Int32.toNatClampNeg ((mx_uI h (.inl 64) (Int32.toNatClampNeg (h.2.1 (.inl 60) 5)) a1).2.1 (.inl 60) 5)) a2).2.1 (.inl 60) 5)) a3).2.1 (.inl 60) 5) + 1)) else h) := x_box_eq _
theorem x46 {E : mx_Ev} {n : Nat} {h : mx_H} {Q : Option mx_V → mx_H → Prop} {a1 : Int32} {a2 : Int32} {a3 : Int32} (hK : (xK_v Q) (f46 a1 a2 a3 h)) : mx_M E n 46 [.inr (.inl 60), .inl (.int a1), .inl (.int a2), .inl (.int a3)] h Q := by
  cases n with
  | zero => exact mx_L.zero
  | succ n => exact sl46_0 (x_use (x_eq (K := (xK_v Q)) (f46_eq a1 a2 a3 h) hK) (fun hK => (x_ite hK (fun hK => (fun _ => (fun _ => (fun _ => hK)))) (fun hK => hK))))
noncomputable def b47 : ((Int32 × Int32 × mx_H)) → ((Int32 × Int32 × mx_H)) ⊕ (Int32)
  | (a1, a2, h) => (if (h.2.1 (.inl 60) 5) ≤ a2 then (Sum.inr (a1 : Int32)) else (Sum.inl ((if a1 < (h.2.1 (.inl 64) (Int32.toNatClampNeg a2)) then (h.2.1 (.inl 64) (Int32.toNatClampNeg a2)) else a1), (a2 + 1), h)))
noncomputable def g47_4 (a1 : Int32) (a2 : Int32) (h : mx_H) : Int32 := ml_wh b47 (a1, a2, h)
theorem g47_4_eq (a1 : Int32) (a2 : Int32) (h : mx_H) : g47_4 a1 a2 h = (if (h.2.1 (.inl 60) 5) ≤ a2 then (a1 : Int32) else (g47_4 (if a1 < (h.2.1 (.inl 64) (Int32.toNatClampNeg a2)) then (h.2.1 (.inl 64) (Int32.toNatClampNeg a2)) else a1) (a2 + 1) h)) := by
  unfold g47_4
  rw [ml_wh_eq]
  simp only [b47, ml_go_ite, ml_go_l, ml_go_r, ml_go_opt, ml_go_let, ml_go_h, ml_go_val]
  try rfl
noncomputable def f47  (h : mx_H) : Int32 := x_box (g47_4 (-1) 0 h)
theorem f47_eq  (h : mx_H) : f47  h = (g47_4 (-1) 0 h) := x_box_eq _
theorem xw47 {E : mx_Ev} {Q : Option mx_V → mx_H → Prop} : ∀ n : Nat, (∀ (a1 : Int32) (a2 : Int32) (h : mx_H), (xK_ip Q h) (g47_4 a1 a2 h) → mx_L E n 47 4 [(0, .inr (.inl 60)), (1, .inl (.int a1)), (2, .inl (.int a2))] [] h Q)
  | 0 => fun _ _ _ _ => mx_L.zero
  | n + 1 => fun a1 a2 h hK => sl47_4 (x_use (x_eq (K := (xK_ip Q h)) (g47_4_eq a1 a2 h) hK) (fun hK => (x_ite hK (fun hK => hK) (fun hK => (fun _ => ((xw47 n) _ _ _ hK))))))
theorem x47 {E : mx_Ev} {n : Nat} {h : mx_H} {Q : Option mx_V → mx_H → Prop} (hK : (xK_ip Q h) (f47  h)) : mx_M E n 47 [.inr (.inl 60)] h Q := by
  cases n with
  | zero => exact mx_L.zero
  | succ n => exact sl47_0 (x_use (x_eq (K := (xK_ip Q h)) (f47_eq  h) hK) (fun hK => ((xw47 n) _ _ _ hK)))
noncomputable def f48 (a1 : Nat) (a2 : Nat) (a3 : Int32) (a4 : Int32) (h : mx_H) : Int32 × mx_H := x_box (if (h.2.1 (.inl 61) (Int32.toNatClampNeg a3)) ≠ 3 then (x_h (f26 a2 (h.2.1 (.inr (a1, 5)) (Int32.toNatClampNeg (h.2.1 (.inl 62) (Int32.toNatClampNeg a3)))) (h.2.1 (.inr (a1, 6)) (Int32.toNatClampNeg (h.2.1 (.inl 62) (Int32.toNatClampNeg a3)))) (((h.2.1 (.inr (a1, 7)) (Int32.toNatClampNeg (h.2.1 (.inl 62) (Int32.toNatClampNeg a3)))) - a4) - (if ((h.2.1 (.inr (a1, 7)) (Int32.toNatClampNeg (h.2.1 (.inl 62) (Int32.toNatClampNeg a3)))) - a4) < (h.2.1 (.inr (a1, 8)) (Int32.toNatClampNeg (h.2.1 (.inl 62) (Int32.toNatClampNeg a3)))) then ((h.2.1 (.inr (a1, 7)) (Int32.toNatClampNeg (h.2.1 (.inl 62) (Int32.toNatClampNeg a3)))) - a4) else (h.2.1 (.inr (a1, 8)) (Int32.toNatClampNeg (h.2.1 (.inl 62) (Int32.toNatClampNeg a3)))))) h) (fun h2 => (if ((h.2.1 (.inr (a1, 7)) (Int32.toNatClampNeg (h.2.1 (.inl 62) (Int32.toNatClampNeg a3)))) - a4) < 1 then ((0 : Int32), h2) else ((1 : Int32), h2)))) else (x_h (f25 a2 (h.2.1 (.inl 62) (Int32.toNatClampNeg a3)) ((h.2.1 (.inr (a1, 1)) (Int32.toNatClampNeg (h.2.1 (.inl 62) (Int32.toNatClampNeg a3)))) - a4) (h.2.1 (.inr (a1, 3)) (Int32.toNatClampNeg (h.2.1 (.inl 62) (Int32.toNatClampNeg a3)))) h) (fun h4 => (if (h4.2.1 (.inr (a1, 1)) (Int32.toNatClampNeg (h.2.1 (.inl 62) (Int32.toNatClampNeg a3)))) ≤ a4 then ((0 : Int32), h4) else ((1 : Int32), h4)))))
theorem f48_eq (a1 : Nat) (a2 : Nat) (a3 : Int32) (a4 : Int32) (h : mx_H) : f48 a1 a2 a3 a4 h = (if (h.2.1 (.inl 61) (Int32.toNatClampNeg a3)) ≠ 3 then (x_h (f26 a2 (h.2.1 (.inr (a1, 5)) (Int32.toNatClampNeg (h.2.1 (.inl 62) (Int32.toNatClampNeg a3)))) (h.2.1 (.inr (a1, 6)) (Int32.toNatClampNeg (h.2.1 (.inl 62) (Int32.toNatClampNeg a3)))) (((h.2.1 (.inr (a1, 7)) (Int32.toNatClampNeg (h.2.1 (.inl 62) (Int32.toNatClampNeg a3)))) - a4) - (if ((h.2.1 (.inr (a1, 7)) (Int32.toNatClampNeg (h.2.1 (.inl 62) (Int32.toNatClampNeg a3)))) - a4) < (h.2.1 (.inr (a1, 8)) (Int32.toNatClampNeg (h.2.1 (.inl 62) (Int32.toNatClampNeg a3)))) then ((h.2.1 (.inr (a1, 7)) (Int32.toNatClampNeg (h.2.1 (.inl 62) (Int32.toNatClampNeg a3)))) - a4) else (h.2.1 (.inr (a1, 8)) (Int32.toNatClampNeg (h.2.1 (.inl 62) (Int32.toNatClampNeg a3)))))) h) (fun h2 => (if ((h.2.1 (.inr (a1, 7)) (Int32.toNatClampNeg (h.2.1 (.inl 62) (Int32.toNatClampNeg a3)))) - a4) < 1 then ((0 : Int32), h2) else ((1 : Int32), h2)))) else (x_h (f25 a2 (h.2.1 (.inl 62) (Int32.toNatClampNeg a3)) ((h.2.1 (.inr (a1, 1)) (Int32.toNatClampNeg (h.2.1 (.inl 62) (Int32.toNatClampNeg a3)))) - a4) (h.2.1 (.inr (a1, 3)) (Int32.toNatClampNeg (h.2.1 (.inl 62) (Int32.toNatClampNeg a3)))) h) (fun h4 => (if (h4.2.1 (.inr (a1, 1)) (Int32.toNatClampNeg (h.2.1 (.inl 62) (Int32.toNatClampNeg a3)))) ≤ a4 then ((0 : Int32), h4) else ((1 : Int32), h4))))) := x_box_eq _
theorem x48 {E : mx_Ev} {n : Nat} {h : mx_H} {Q : Option mx_V → mx_H → Prop} {a1 : Nat} {a2 : Nat} {a3 : Int32} {a4 : Int32} (hK : (xK_i Q) (f48 a1 a2 a3 a4 h)) : mx_M E n 48 [.inr (.inl 60), .inr (.inr (a1, 0)), .inr (.inr (a2, 30)), .inl (.int a3), .inl (.int a4)] h Q := by
  cases n with
  | zero => exact mx_L.zero
  | succ n => exact sl48_0 (x_use (x_eq (K := (xK_i Q)) (f48_eq a1 a2 a3 a4 h) hK) (fun hK => (fun _ => (fun _ => (x_ite hK (fun hK => (fun _ => (fun _ => (fun _ => (fun _ => (x26 (xh_n (x_hk hK (fun hK => (x_ite hK (fun hK => (fun _ => hK)) (fun hK => (fun _ => hK)))))))))))) (fun hK => (fun _ => (fun _ => (x25 (xh_n (x_hk hK (fun hK => (fun _ => (x_ite hK (fun hK => (fun _ => hK)) (fun hK => (fun _ => hK))))))))))))))))
noncomputable def b51 : ((Nat × Nat × Int32 × Int32 × Int32 × mx_H) ⊕ (Nat × Int32 × Int32 × Int32 × Int32 × mx_H)) → ((Nat × Nat × Int32 × Int32 × Int32 × mx_H) ⊕ (Nat × Int32 × Int32 × Int32 × Int32 × mx_H)) ⊕ (mx_H)
  | (.inl (a1, a2, a3, a4, a5, h)) => (if (h.2.1 (.inl 60) 1) ≤ a5 then (Sum.inl (.inr (a2, a3, a4, 0, 0, h))) else (if (h.2.1 (.inl 67) (Int32.toNatClampNeg a5)) ≤ 0 then (Sum.inl (.inl (a1, a2, a3, a4, (a5 + 1), h))) else (x_let (f48 a1 a2 a5 (h.2.1 (.inl 67) (Int32.toNatClampNeg a5)) h) (fun x3 h2 => (if x3 ≠ 0 then (Sum.inl (.inl (a1, a2, a3, a4, (a5 + 1), h2))) else (Sum.inr h2))))))
  | (.inr (a2, a3, a4, a5, a6, h)) => (if (h.2.1 (.inl 60) 5) ≤ a6 then (if (h.2.1 (.inl 60) 10) ≤ a5 then (Sum.inr h) else (Sum.inr (mx_uI (mx_uI (mx_uI h (.inl 60) 10 a5) (.inl 60) 11 a3) (.inl 60) 12 a4))) else (if (h.2.1 (.inl 60) 10) ≤ a5 then (if (h.2.1 (.inl 60) 10) ≤ a5 then (Sum.inr h) else (Sum.inr (mx_uI (mx_uI (mx_uI h (.inl 60) 10 a5) (.inl 60) 11 a3) (.inl 60) 12 a4))) else (x_let (f33 a2 (h.2.1 (.inl 64) (Int32.toNatClampNeg a6)) (h.2.1 (.inl 65) (Int32.toNatClampNeg a6)) h) (fun x3 h2 => (Sum.inl (.inr (a2, a3, a4, (a5 + (if 0 ≤ (x3 - (h2.2.1 (.inl 66) (Int32.toNatClampNeg a6))) then (x3 - (h2.2.1 (.inl 66) (Int32.toNatClampNeg a6))) else 0 - (x3 - (h2.2.1 (.inl 66) (Int32.toNatClampNeg a6))))), (a6 + 1), h2)))))))
noncomputable def g51_8 (a1 : Nat) (a2 : Nat) (a3 : Int32) (a4 : Int32) (a5 : Int32) (h : mx_H) : mx_H := ml_wh b51 (.inl (a1, a2, a3, a4, a5, h))
noncomputable def g51_58 (a2 : Nat) (a3 : Int32) (a4 : Int32) (a5 : Int32) (a6 : Int32) (h : mx_H) : mx_H := ml_wh b51 (.inr (a2, a3, a4, a5, a6, h))
theorem g51_8_eq (a1 : Nat) (a2 : Nat) (a3 : Int32) (a4 : Int32) (a5 : Int32) (h : mx_H) : g51_8 a1 a2 a3 a4 a5 h = (if (h.2.1 (.inl 60) 1) ≤ a5 then (g51_58 a2 a3 a4 0 0 h) else (if (h.2.1 (.inl 67) (Int32.toNatClampNeg a5)) ≤ 0 then (g51_8 a1 a2 a3 a4 (a5 + 1) h) else (x_let (f48 a1 a2 a5 (h.2.1 (.inl 67) (Int32.toNatClampNeg a5)) h) (fun x3 h2 => (if x3 ≠ 0 then (g51_8 a1 a2 a3 a4 (a5 + 1) h2) else h2))))) := by
  unfold g51_8
  rw [ml_wh_eq]
  simp only [b51, ml_go_ite, ml_go_l, ml_go_r, ml_go_opt, ml_go_let, ml_go_h, ml_go_val]
  try rfl
theorem g51_58_eq (a2 : Nat) (a3 : Int32) (a4 : Int32) (a5 : Int32) (a6 : Int32) (h : mx_H) : g51_58 a2 a3 a4 a5 a6 h = (if (h.2.1 (.inl 60) 5) ≤ a6 then (if (h.2.1 (.inl 60) 10) ≤ a5 then h else (mx_uI (mx_uI (mx_uI h (.inl 60) 10 a5) (.inl 60) 11 a3) (.inl 60) 12 a4)) else (if (h.2.1 (.inl 60) 10) ≤ a5 then (if (h.2.1 (.inl 60) 10) ≤ a5 then h else (mx_uI (mx_uI (mx_uI h (.inl 60) 10 a5) (.inl 60) 11 a3) (.inl 60) 12 a4)) else (x_let (f33 a2 (h.2.1 (.inl 64) (Int32.toNatClampNeg a6)) (h.2.1 (.inl 65) (Int32.toNatClampNeg a6)) h) (fun x3 h2 => (g51_58 a2 a3 a4 (a5 + (if 0 ≤ (x3 - (h2.2.1 (.inl 66) (Int32.toNatClampNeg a6))) then (x3 - (h2.2.1 (.inl 66) (Int32.toNatClampNeg a6))) else 0 - (x3 - (h2.2.1 (.inl 66) (Int32.toNatClampNeg a6))))) (a6 + 1) h2))))) := by
  unfold g51_58
  rw [ml_wh_eq]
  simp only [b51, ml_go_ite, ml_go_l, ml_go_r, ml_go_opt, ml_go_let, ml_go_h, ml_go_val]
  try rfl
noncomputable def f51 (a1 : Nat) (a2 : Nat) (a3 : Int32) (a4 : Int32) (h : mx_H) : mx_H := x_box (x_h (f22 a2 a1 h) (fun h2 => (g51_8 a1 a2 a3 a4 0 h2)))
theorem f51_eq (a1 : Nat) (a2 : Nat) (a3 : Int32) (a4 : Int32) (h : mx_H) : f51 a1 a2 a3 a4 h = (x_h (f22 a2 a1 h) (fun h2 => (g51_8 a1 a2 a3 a4 0 h2))) := x_box_eq _
theorem xw51 {E : mx_Ev} {Q : Option mx_V → mx_H → Prop} : ∀ n : Nat, (∀ (a1 : Nat) (a2 : Nat) (a3 : Int32) (a4 : Int32) (a5 : Int32) (h : mx_H), (xK_v Q) (g51_8 a1 a2 a3 a4 a5 h) → mx_L E n 51 8 [(0, .inr (.inl 60)), (1, .inr (.inr (a1, 0))), (2, .inr (.inr (a2, 30))), (3, .inl (.int a3)), (4, .inl (.int a4)), (5, .inl (.int a5))] [] h Q) ∧ (∀ (a2 : Nat) (a3 : Int32) (a4 : Int32) (a5 : Int32) (a6 : Int32) (h : mx_H), (xK_v Q) (g51_58 a2 a3 a4 a5 a6 h) → mx_L E n 51 58 [(0, .inr (.inl 60)), (2, .inr (.inr (a2, 30))), (3, .inl (.int a3)), (4, .inl (.int a4)), (5, .inl (.int a5)), (6, .inl (.int a6))] [] h Q)
  | 0 => ⟨fun _ _ _ _ _ _ _ => mx_L.zero, fun _ _ _ _ _ _ _ => mx_L.zero⟩
  | n + 1 => ⟨fun a1 a2 a3 a4 a5 h hK => sl51_8 (x_use (x_eq (K := (xK_v Q)) (g51_8_eq a1 a2 a3 a4 a5 h) hK) (fun hK => (x_ite hK (fun hK => ((xw51 n).2 _ _ _ _ _ _ hK)) (fun hK => (fun _ => (x_ite hK (fun hK => ((xw51 n).1 _ _ _ _ _ _ hK)) (fun hK => (fun _ => (x48 (xh_i (x_letk hK (fun hK => (x_ite hK (fun hK => ((xw51 n).1 _ _ _ _ _ _ hK)) (fun hK => hK)))))))))))))), fun a2 a3 a4 a5 a6 h hK => sl51_58 (x_use (x_eq (K := (xK_v Q)) (g51_58_eq a2 a3 a4 a5 a6 h) hK) (fun hK => (x_ite hK (fun hK => (x_ite hK (fun hK => hK) (fun hK => hK))) (fun hK => (x_ite hK (fun hK => (x_ite hK (fun hK => hK) (fun hK => hK))) (fun hK => (fun _ => (fun _ => (x33 (xh_i (x_letk hK (fun hK => (fun _ => ((xw51 n).2 _ _ _ _ _ _ hK))))))))))))))⟩
theorem x51 {E : mx_Ev} {n : Nat} {h : mx_H} {Q : Option mx_V → mx_H → Prop} {a1 : Nat} {a2 : Nat} {a3 : Int32} {a4 : Int32} (hK : (xK_v Q) (f51 a1 a2 a3 a4 h)) : mx_M E n 51 [.inr (.inl 60), .inr (.inr (a1, 0)), .inr (.inr (a2, 30)), .inl (.int a3), .inl (.int a4)] h Q := by
  cases n with
  | zero => exact mx_L.zero
  | succ n => exact sl51_0 (x_use (x_eq (K := (xK_v Q)) (f51_eq a1 a2 a3 a4 h) hK) (fun hK => (x22 (xh_n (x_hk hK (fun hK => ((xw51 n).1 _ _ _ _ _ _ hK)))))))
noncomputable def f53 (a1 : Int32) (a2 : Int32) (h : mx_H) : mx_H := x_box (if (h.2.1 (.inl 80) 0) < 6 then (mx_uI (mx_uI (mx_uI h (.inl 81) (Int32.toNatClampNeg (h.2.1 (.inl 80) 0)) a1) (.inl 82) (Int32.toNatClampNeg ((mx_uI h (.inl 81) (Int32.toNatClampNeg (h.2.1 (.inl 80) 0)) a1).2.1 (.inl 80) 0)) a2) (.inl 80) 0 (((mx_uI (mx_uI h (.inl 81) (Int32.toNatClampNeg (h.2.1 (.inl 80) 0)) a1) (.inl 82) (Int32.toNatClampNeg ((mx_uI h (.inl 81) (Int32.toNatClampNeg (h.2.1 (.inl 80) 0)) a1).2.1 (.inl 80) 0)) a2).2.1 (.inl 80) 0) + 1)) else h)
theorem f53_eq (a1 : Int32) (a2 : Int32) (h : mx_H) : f53 a1 a2 h = (if (h.2.1 (.inl 80) 0) < 6 then (mx_uI (mx_uI (mx_uI h (.inl 81) (Int32.toNatClampNeg (h.2.1 (.inl 80) 0)) a1) (.inl 82) (Int32.toNatClampNeg ((mx_uI h (.inl 81) (Int32.toNatClampNeg (h.2.1 (.inl 80) 0)) a1).2.1 (.inl 80) 0)) a2) (.inl 80) 0 (((mx_uI (mx_uI h (.inl 81) (Int32.toNatClampNeg (h.2.1 (.inl 80) 0)) a1) (.inl 82) (Int32.toNatClampNeg ((mx_uI h (.inl 81) (Int32.toNatClampNeg (h.2.1 (.inl 80) 0)) a1).2.1 (.inl 80) 0)) a2).2.1 (.inl 80) 0) + 1)) else h) := x_box_eq _
theorem x53 {E : mx_Ev} {n : Nat} {h : mx_H} {Q : Option mx_V → mx_H → Prop} {a1 : Int32} {a2 : Int32} (hK : (xK_v Q) (f53 a1 a2 h)) : mx_M E n 53 [.inr (.inl 80), .inl (.int a1), .inl (.int a2)] h Q := by
  cases n with
  | zero => exact mx_L.zero
  | succ n => exact sl53_0 (x_use (x_eq (K := (xK_v Q)) (f53_eq a1 a2 h) hK) (fun hK => (x_ite hK (fun hK => (fun _ => (fun _ => hK))) (fun hK => hK))))
noncomputable def f54 (a1 : Int32) (a2 : Int32) (a3 : Int32) (a4 : Int32) (h : mx_H) : Int32 := x_box (if a4 < (if 0 ≤ (((h.2.1 (.inl 83) (Int32.toNatClampNeg a2)) * (h.2.1 (.inl 82) (Int32.toNatClampNeg a1))) - ((h.2.1 (.inl 83) (Int32.toNatClampNeg a3)) * (h.2.1 (.inl 81) (Int32.toNatClampNeg a1)))) then (((h.2.1 (.inl 83) (Int32.toNatClampNeg a2)) * (h.2.1 (.inl 82) (Int32.toNatClampNeg a1))) - ((h.2.1 (.inl 83) (Int32.toNatClampNeg a3)) * (h.2.1 (.inl 81) (Int32.toNatClampNeg a1)))) else 0 - (((h.2.1 (.inl 83) (Int32.toNatClampNeg a2)) * (h.2.1 (.inl 82) (Int32.toNatClampNeg a1))) - ((h.2.1 (.inl 83) (Int32.toNatClampNeg a3)) * (h.2.1 (.inl 81) (Int32.toNatClampNeg a1))))) then (0 : Int32) else (1 : Int32))
theorem f54_eq (a1 : Int32) (a2 : Int32) (a3 : Int32) (a4 : Int32) (h : mx_H) : f54 a1 a2 a3 a4 h = (if a4 < (if 0 ≤ (((h.2.1 (.inl 83) (Int32.toNatClampNeg a2)) * (h.2.1 (.inl 82) (Int32.toNatClampNeg a1))) - ((h.2.1 (.inl 83) (Int32.toNatClampNeg a3)) * (h.2.1 (.inl 81) (Int32.toNatClampNeg a1)))) then (((h.2.1 (.inl 83) (Int32.toNatClampNeg a2)) * (h.2.1 (.inl 82) (Int32.toNatClampNeg a1))) - ((h.2.1 (.inl 83) (Int32.toNatClampNeg a3)) * (h.2.1 (.inl 81) (Int32.toNatClampNeg a1)))) else 0 - (((h.2.1 (.inl 83) (Int32.toNatClampNeg a2)) * (h.2.1 (.inl 82) (Int32.toNatClampNeg a1))) - ((h.2.1 (.inl 83) (Int32.toNatClampNeg a3)) * (h.2.1 (.inl 81) (Int32.toNatClampNeg a1))))) then (0 : Int32) else (1 : Int32)) := x_box_eq _
theorem x54 {E : mx_Ev} {n : Nat} {h : mx_H} {Q : Option mx_V → mx_H → Prop} {a1 : Int32} {a2 : Int32} {a3 : Int32} {a4 : Int32} (hK : (xK_ip Q h) (f54 a1 a2 a3 a4 h)) : mx_M E n 54 [.inr (.inl 80), .inl (.int a1), .inl (.int a2), .inl (.int a3), .inl (.int a4)] h Q := by
  cases n with
  | zero => exact mx_L.zero
  | succ n => exact sl54_0 (x_use (x_eq (K := (xK_ip Q h)) (f54_eq a1 a2 a3 a4 h) hK) (fun hK => (fun _ => (fun _ => (fun _ => (fun _ => (x_ite hK (fun hK => (fun _ => hK)) (fun hK => (fun _ => hK)))))))))
noncomputable def b55 : ((Int32 × Int32 × Int32 × Int32 × mx_H)) → ((Int32 × Int32 × Int32 × Int32 × mx_H)) ⊕ (Int32)
  | (a1, a2, a3, a4, h) => (if a1 ≤ (a4 + 1) then (Sum.inr (a3 : Int32)) else (if (f54 a4 a4 (a4 + 1) a2 h) = 0 then (Sum.inl (a1, a2, a3, (a4 + 1), h)) else (Sum.inl (a1, a2, (a3 + 1), (a4 + 1), h))))
noncomputable def g55_5 (a1 : Int32) (a2 : Int32) (a3 : Int32) (a4 : Int32) (h : mx_H) : Int32 := ml_wh b55 (a1, a2, a3, a4, h)
theorem g55_5_eq (a1 : Int32) (a2 : Int32) (a3 : Int32) (a4 : Int32) (h : mx_H) : g55_5 a1 a2 a3 a4 h = (if a1 ≤ (a4 + 1) then (a3 : Int32) else (if (f54 a4 a4 (a4 + 1) a2 h) = 0 then (g55_5 a1 a2 a3 (a4 + 1) h) else (g55_5 a1 a2 (a3 + 1) (a4 + 1) h))) := by
  unfold g55_5
  rw [ml_wh_eq]
  simp only [b55, ml_go_ite, ml_go_l, ml_go_r, ml_go_opt, ml_go_let, ml_go_h, ml_go_val]
  try rfl
noncomputable def f55 (a1 : Int32) (a2 : Int32) (h : mx_H) : Int32 := x_box (g55_5 a1 a2 0 0 h)
theorem f55_eq (a1 : Int32) (a2 : Int32) (h : mx_H) : f55 a1 a2 h = (g55_5 a1 a2 0 0 h) := x_box_eq _
theorem xw55 {E : mx_Ev} {Q : Option mx_V → mx_H → Prop} : ∀ n : Nat, (∀ (a1 : Int32) (a2 : Int32) (a3 : Int32) (a4 : Int32) (h : mx_H), (xK_ip Q h) (g55_5 a1 a2 a3 a4 h) → mx_L E n 55 5 [(0, .inr (.inl 80)), (1, .inl (.int a1)), (2, .inl (.int a2)), (3, .inl (.int a3)), (4, .inl (.int a4))] [] h Q)
  | 0 => fun _ _ _ _ _ _ => mx_L.zero
  | n + 1 => fun a1 a2 a3 a4 h hK => sl55_5 (x_use (x_eq (K := (xK_ip Q h)) (g55_5_eq a1 a2 a3 a4 h) hK) (fun hK => (x_ite hK (fun hK => hK) (fun hK => (x54 (xh_i (x_ite hK (fun hK => ((xw55 n) _ _ _ _ _ hK)) (fun hK => ((xw55 n) _ _ _ _ _ hK)))))))))
theorem x55 {E : mx_Ev} {n : Nat} {h : mx_H} {Q : Option mx_V → mx_H → Prop} {a1 : Int32} {a2 : Int32} (hK : (xK_ip Q h) (f55 a1 a2 h)) : mx_M E n 55 [.inr (.inl 80), .inl (.int a1), .inl (.int a2)] h Q := by
  cases n with
  | zero => exact mx_L.zero
  | succ n => exact sl55_0 (x_use (x_eq (K := (xK_ip Q h)) (f55_eq a1 a2 h) hK) (fun hK => ((xw55 n) _ _ _ _ _ hK)))
noncomputable def f309 (a0 : Int32) : Int32 := x_box ((((((((a0 - (((a0.toUInt32 >>> (Int32.toUInt32 1 &&& Int32.toUInt32 31)).toInt32) &&& 1431655765)) &&& 858993459) + ((((a0 - (((a0.toUInt32 >>> (Int32.toUInt32 1 &&& Int32.toUInt32 31)).toInt32) &&& 1431655765)).toUInt32 >>> (Int32.toUInt32 2 &&& Int32.toUInt32 31)).toInt32) &&& 858993459)) + (((((a0 - (((a0.toUInt32 >>> (Int32.toUInt32 1 &&& Int32.toUInt32 31)).toInt32) &&& 1431655765)) &&& 858993459) + ((((a0 - (((a0.toUInt32 >>> (Int32.toUInt32 1 &&& Int32.toUInt32 31)).toInt32) &&& 1431655765)).toUInt32 >>> (Int32.toUInt32 2 &&& Int32.toUInt32 31)).toInt32) &&& 858993459)).toUInt32 >>> (Int32.toUInt32 4 &&& Int32.toUInt32 31)).toInt32)) &&& 252645135) + (((((((a0 - (((a0.toUInt32 >>> (Int32.toUInt32 1 &&& Int32.toUInt32 31)).toInt32) &&& 1431655765)) &&& 858993459) + ((((a0 - (((a0.toUInt32 >>> (Int32.toUInt32 1 &&& Int32.toUInt32 31)).toInt32) &&& 1431655765)).toUInt32 >>> (Int32.toUInt32 2 &&& Int32.toUInt32 31)).toInt32) &&& 858993459)) + (((((a0 - (((a0.toUInt32 >>> (Int32.toUInt32 1 &&& Int32.toUInt32 31)).toInt32) &&& 1431655765)) &&& 858993459) + ((((a0 - (((a0.toUInt32 >>> (Int32.toUInt32 1 &&& Int32.toUInt32 31)).toInt32) &&& 1431655765)).toUInt32 >>> (Int32.toUInt32 2 &&& Int32.toUInt32 31)).toInt32) &&& 858993459)).toUInt32 >>> (Int32.toUInt32 4 &&& Int32.toUInt32 31)).toInt32)) &&& 252645135).toUInt32 >>> (Int32.toUInt32 8 &&& Int32.toUInt32 31)).toInt32)) + ((((((((a0 - (((a0.toUInt32 >>> (Int32.toUInt32 1 &&& Int32.toUInt32 31)).toInt32) &&& 1431655765)) &&& 858993459) + ((((a0 - (((a0.toUInt32 >>> (Int32.toUInt32 1 &&& Int32.toUInt32 31)).toInt32) &&& 1431655765)).toUInt32 >>> (Int32.toUInt32 2 &&& Int32.toUInt32 31)).toInt32) &&& 858993459)) + (((((a0 - (((a0.toUInt32 >>> (Int32.toUInt32 1 &&& Int32.toUInt32 31)).toInt32) &&& 1431655765)) &&& 858993459) + ((((a0 - (((a0.toUInt32 >>> (Int32.toUInt32 1 &&& Int32.toUInt32 31)).toInt32) &&& 1431655765)).toUInt32 >>> (Int32.toUInt32 2 &&& Int32.toUInt32 31)).toInt32) &&& 858993459)).toUInt32 >>> (Int32.toUInt32 4 &&& Int32.toUInt32 31)).toInt32)) &&& 252645135) + (((((((a0 - (((a0.toUInt32 >>> (Int32.toUInt32 1 &&& Int32.toUInt32 31)).toInt32) &&& 1431655765)) &&& 858993459) + ((((a0 - (((a0.toUInt32 >>> (Int32.toUInt32 1 &&& Int32.toUInt32 31)).toInt32) &&& 1431655765)).toUInt32 >>> (Int32.toUInt32 2 &&& Int32.toUInt32 31)).toInt32) &&& 858993459)) + (((((a0 - (((a0.toUInt32 >>> (Int32.toUInt32 1 &&& Int32.toUInt32 31)).toInt32) &&& 1431655765)) &&& 858993459) + ((((a0 - (((a0.toUInt32 >>> (Int32.toUInt32 1 &&& Int32.toUInt32 31)).toInt32) &&& 1431655765)).toUInt32 >>> (Int32.toUInt32 2 &&& Int32.toUInt32 31)).toInt32) &&& 858993459)).toUInt32 >>> (Int32.toUInt32 4 &&& Int32.toUInt32 31)).toInt32)) &&& 252645135).toUInt32 >>> (Int32.toUInt32 8 &&& Int32.toUInt32 31)).toInt32)).toUInt32 >>> (Int32.toUInt32 16 &&& Int32.toUInt32 31)).toInt32)) &&& 63 : Int32)
theorem f309_eq (a0 : Int32) : f309 a0 = ((((((((a0 - (((a0.toUInt32 >>> (Int32.toUInt32 1 &&& Int32.toUInt32 31)).toInt32) &&& 1431655765)) &&& 858993459) + ((((a0 - (((a0.toUInt32 >>> (Int32.toUInt32 1 &&& Int32.toUInt32 31)).toInt32) &&& 1431655765)).toUInt32 >>> (Int32.toUInt32 2 &&& Int32.toUInt32 31)).toInt32) &&& 858993459)) + (((((a0 - (((a0.toUInt32 >>> (Int32.toUInt32 1 &&& Int32.toUInt32 31)).toInt32) &&& 1431655765)) &&& 858993459) + ((((a0 - (((a0.toUInt32 >>> (Int32.toUInt32 1 &&& Int32.toUInt32 31)).toInt32) &&& 1431655765)).toUInt32 >>> (Int32.toUInt32 2 &&& Int32.toUInt32 31)).toInt32) &&& 858993459)).toUInt32 >>> (Int32.toUInt32 4 &&& Int32.toUInt32 31)).toInt32)) &&& 252645135) + (((((((a0 - (((a0.toUInt32 >>> (Int32.toUInt32 1 &&& Int32.toUInt32 31)).toInt32) &&& 1431655765)) &&& 858993459) + ((((a0 - (((a0.toUInt32 >>> (Int32.toUInt32 1 &&& Int32.toUInt32 31)).toInt32) &&& 1431655765)).toUInt32 >>> (Int32.toUInt32 2 &&& Int32.toUInt32 31)).toInt32) &&& 858993459)) + (((((a0 - (((a0.toUInt32 >>> (Int32.toUInt32 1 &&& Int32.toUInt32 31)).toInt32) &&& 1431655765)) &&& 858993459) + ((((a0 - (((a0.toUInt32 >>> (Int32.toUInt32 1 &&& Int32.toUInt32 31)).toInt32) &&& 1431655765)).toUInt32 >>> (Int32.toUInt32 2 &&& Int32.toUInt32 31)).toInt32) &&& 858993459)).toUInt32 >>> (Int32.toUInt32 4 &&& Int32.toUInt32 31)).toInt32)) &&& 252645135).toUInt32 >>> (Int32.toUInt32 8 &&& Int32.toUInt32 31)).toInt32)) + ((((((((a0 - (((a0.toUInt32 >>> (Int32.toUInt32 1 &&& Int32.toUInt32 31)).toInt32) &&& 1431655765)) &&& 858993459) + ((((a0 - (((a0.toUInt32 >>> (Int32.toUInt32 1 &&& Int32.toUInt32 31)).toInt32) &&& 1431655765)).toUInt32 >>> (Int32.toUInt32 2 &&& Int32.toUInt32 31)).toInt32) &&& 858993459)) + (((((a0 - (((a0.toUInt32 >>> (Int32.toUInt32 1 &&& Int32.toUInt32 31)).toInt32) &&& 1431655765)) &&& 858993459) + ((((a0 - (((a0.toUInt32 >>> (Int32.toUInt32 1 &&& Int32.toUInt32 31)).toInt32) &&& 1431655765)).toUInt32 >>> (Int32.toUInt32 2 &&& Int32.toUInt32 31)).toInt32) &&& 858993459)).toUInt32 >>> (Int32.toUInt32 4 &&& Int32.toUInt32 31)).toInt32)) &&& 252645135) + (((((((a0 - (((a0.toUInt32 >>> (Int32.toUInt32 1 &&& Int32.toUInt32 31)).toInt32) &&& 1431655765)) &&& 858993459) + ((((a0 - (((a0.toUInt32 >>> (Int32.toUInt32 1 &&& Int32.toUInt32 31)).toInt32) &&& 1431655765)).toUInt32 >>> (Int32.toUInt32 2 &&& Int32.toUInt32 31)).toInt32) &&& 858993459)) + (((((a0 - (((a0.toUInt32 >>> (Int32.toUInt32 1 &&& Int32.toUInt32 31)).toInt32) &&& 1431655765)) &&& 858993459) + ((((a0 - (((a0.toUInt32 >>> (Int32.toUInt32 1 &&& Int32.toUInt32 31)).toInt32) &&& 1431655765)).toUInt32 >>> (Int32.toUInt32 2 &&& Int32.toUInt32 31)).toInt32) &&& 858993459)).toUInt32 >>> (Int32.toUInt32 4 &&& Int32.toUInt32 31)).toInt32)) &&& 252645135).toUInt32 >>> (Int32.toUInt32 8 &&& Int32.toUInt32 31)).toInt32)).toUInt32 >>> (Int32.toUInt32 16 &&& Int32.toUInt32 31)).toInt32)) &&& 63 : Int32) := x_box_eq _
theorem x309 {E : mx_Ev} {n : Nat} {h : mx_H} {Q : Option mx_V → mx_H → Prop} {a0 : Int32} (hK : (xK_ip Q h) (f309 a0)) : mx_M E n 309 [.inl (.int a0)] h Q := by
  cases n with
  | zero => exact mx_L.zero
  | succ n => exact sl309_0 (x_use (x_eq (K := (xK_ip Q h)) (f309_eq a0) hK) (fun hK => hK))
noncomputable def b57 : ((Int32 × Int32 × Int32 × Int32 × Int32 × Int32 × mx_H)) → ((Int32 × Int32 × Int32 × Int32 × Int32 × Int32 × mx_H)) ⊕ (Int32)
  | (a1, a2, a3, a4, a5, a6, h) => (if a1 ≤ a6 then (Sum.inr (1 : Int32)) else (if ((a3 >>> (a6 &&& 31)) &&& 1) = 0 then (if a5 < 0 then (Sum.inl (a1, a2, a3, (a4 + 1), a6, (a6 + 1), h)) else (if (f54 (a4 - 1) a5 a6 a2 h) ≠ 0 then (Sum.inl (a1, a2, a3, (a4 + 1), a6, (a6 + 1), h)) else (Sum.inr (0 : Int32)))) else (Sum.inl (a1, a2, a3, a4, a5, (a6 + 1), h))))
noncomputable def g57_9 (a1 : Int32) (a2 : Int32) (a3 : Int32) (a4 : Int32) (a5 : Int32) (a6 : Int32) (h : mx_H) : Int32 := ml_wh b57 (a1, a2, a3, a4, a5, a6, h)
theorem g57_9_eq (a1 : Int32) (a2 : Int32) (a3 : Int32) (a4 : Int32) (a5 : Int32) (a6 : Int32) (h : mx_H) : g57_9 a1 a2 a3 a4 a5 a6 h = (if a1 ≤ a6 then (1 : Int32) else (if ((a3 >>> (a6 &&& 31)) &&& 1) = 0 then (if a5 < 0 then (g57_9 a1 a2 a3 (a4 + 1) a6 (a6 + 1) h) else (if (f54 (a4 - 1) a5 a6 a2 h) ≠ 0 then (g57_9 a1 a2 a3 (a4 + 1) a6 (a6 + 1) h) else (0 : Int32))) else (g57_9 a1 a2 a3 a4 a5 (a6 + 1) h))) := by
  unfold g57_9
  rw [ml_wh_eq]
  simp only [b57, ml_go_ite, ml_go_l, ml_go_r, ml_go_opt, ml_go_let, ml_go_h, ml_go_val]
  try rfl
noncomputable def f57 (a1 : Int32) (a2 : Int32) (a3 : Int32) (h : mx_H) : Int32 := x_box (g57_9 a1 a2 a3 0 (-1) 0 h)
theorem f57_eq (a1 : Int32) (a2 : Int32) (a3 : Int32) (h : mx_H) : f57 a1 a2 a3 h = (g57_9 a1 a2 a3 0 (-1) 0 h) := x_box_eq _
theorem xw57 {E : mx_Ev} {Q : Option mx_V → mx_H → Prop} : ∀ n : Nat, (∀ (a1 : Int32) (a2 : Int32) (a3 : Int32) (a4 : Int32) (a5 : Int32) (a6 : Int32) (h : mx_H), (xK_ip Q h) (g57_9 a1 a2 a3 a4 a5 a6 h) → mx_L E n 57 9 [(0, .inr (.inl 80)), (1, .inl (.int a1)), (2, .inl (.int a2)), (3, .inl (.int a3)), (4, .inl (.int a4)), (5, .inl (.int a5)), (6, .inl (.int a6))] [] h Q)
  | 0 => fun _ _ _ _ _ _ _ _ => mx_L.zero
  | n + 1 => fun a1 a2 a3 a4 a5 a6 h hK => sl57_9 (x_use (x_eq (K := (xK_ip Q h)) (g57_9_eq a1 a2 a3 a4 a5 a6 h) hK) (fun hK => (x_ite hK (fun hK => (fun _ => hK)) (fun hK => (x_ite hK (fun hK => (x_ite hK (fun hK => ((xw57 n) _ _ _ _ _ _ _ hK)) (fun hK => (x54 (xh_i (x_ite hK (fun hK => ((xw57 n) _ _ _ _ _ _ _ hK)) (fun hK => (fun _ => hK)))))))) (fun hK => ((xw57 n) _ _ _ _ _ _ _ hK)))))))
theorem x57 {E : mx_Ev} {n : Nat} {h : mx_H} {Q : Option mx_V → mx_H → Prop} {a1 : Int32} {a2 : Int32} {a3 : Int32} (hK : (xK_ip Q h) (f57 a1 a2 a3 h)) : mx_M E n 57 [.inr (.inl 80), .inl (.int a1), .inl (.int a2), .inl (.int a3)] h Q := by
  cases n with
  | zero => exact mx_L.zero
  | succ n => exact sl57_0 (x_use (x_eq (K := (xK_ip Q h)) (f57_eq a1 a2 a3 h) hK) (fun hK => ((xw57 n) _ _ _ _ _ _ _ hK)))
noncomputable def b56 : ((Int32 × Int32 × Int32 × Int32 × mx_H)) → ((Int32 × Int32 × Int32 × Int32 × mx_H)) ⊕ (Int32)
  | (a1, a2, a3, a4, h) => (if a4 < 0 then (Sum.inr (a3 : Int32)) else (if (f309 a3) < (f309 a4) then (Sum.inl (a1, a2, a3, (a4 + (-1)), h)) else (if (f57 a1 a2 a4 h) = 0 then (Sum.inl (a1, a2, a3, (a4 + (-1)), h)) else (Sum.inl (a1, a2, a4, (a4 + (-1)), h)))))
noncomputable def g56_9 (a1 : Int32) (a2 : Int32) (a3 : Int32) (a4 : Int32) (h : mx_H) : Int32 := ml_wh b56 (a1, a2, a3, a4, h)
theorem g56_9_eq (a1 : Int32) (a2 : Int32) (a3 : Int32) (a4 : Int32) (h : mx_H) : g56_9 a1 a2 a3 a4 h = (if a4 < 0 then (a3 : Int32) else (if (f309 a3) < (f309 a4) then (g56_9 a1 a2 a3 (a4 + (-1)) h) else (if (f57 a1 a2 a4 h) = 0 then (g56_9 a1 a2 a3 (a4 + (-1)) h) else (g56_9 a1 a2 a4 (a4 + (-1)) h)))) := by
  unfold g56_9
  rw [ml_wh_eq]
  simp only [b56, ml_go_ite, ml_go_l, ml_go_r, ml_go_opt, ml_go_let, ml_go_h, ml_go_val]
  try rfl
noncomputable def f56 (a1 : Int32) (a2 : Int32) (h : mx_H) : Int32 := x_box (g56_9 a1 a2 ((1 <<< (a1 &&& 31)) - 2) ((1 <<< (a1 &&& 31)) - 2) h)
theorem f56_eq (a1 : Int32) (a2 : Int32) (h : mx_H) : f56 a1 a2 h = (g56_9 a1 a2 ((1 <<< (a1 &&& 31)) - 2) ((1 <<< (a1 &&& 31)) - 2) h) := x_box_eq _
theorem xw56 {E : mx_Ev} {Q : Option mx_V → mx_H → Prop} : ∀ n : Nat, (∀ (a1 : Int32) (a2 : Int32) (a3 : Int32) (a4 : Int32) (h : mx_H), (xK_ip Q h) (g56_9 a1 a2 a3 a4 h) → mx_L E n 56 9 [(0, .inr (.inl 80)), (1, .inl (.int a1)), (2, .inl (.int a2)), (3, .inl (.int a3)), (4, .inl (.int a4))] [] h Q)
  | 0 => fun _ _ _ _ _ _ => mx_L.zero
  | n + 1 => fun a1 a2 a3 a4 h hK => sl56_9 (x_use (x_eq (K := (xK_ip Q h)) (g56_9_eq a1 a2 a3 a4 h) hK) (fun hK => (x_ite hK (fun hK => hK) (fun hK => (x309 (xh_i (x309 (xh_i (x_ite hK (fun hK => ((xw56 n) _ _ _ _ _ hK)) (fun hK => (x57 (xh_i (x_ite hK (fun hK => ((xw56 n) _ _ _ _ _ hK)) (fun hK => ((xw56 n) _ _ _ _ _ hK)))))))))))))))
theorem x56 {E : mx_Ev} {n : Nat} {h : mx_H} {Q : Option mx_V → mx_H → Prop} {a1 : Int32} {a2 : Int32} (hK : (xK_ip Q h) (f56 a1 a2 h)) : mx_M E n 56 [.inr (.inl 80), .inl (.int a1), .inl (.int a2)] h Q := by
  cases n with
  | zero => exact mx_L.zero
  | succ n => exact sl56_0 (x_use (x_eq (K := (xK_ip Q h)) (f56_eq a1 a2 h) hK) (fun hK => ((xw56 n) _ _ _ _ _ hK)))
noncomputable def f59 (t0 : Nat) (h : mx_H) : mx_H := x_box (x_h (f317 (.inr (t0, 2)) 0 (mx_uI (mx_uI h (.inr (t0, 0)) 0 0) (.inr (t0, 0)) 6 0)) (fun h2 => (x_h (f317 (.inr (t0, 3)) 0 h2) (fun h4 => (x_h (f317 (.inr (t0, 4)) 0 h4) (fun h6 => (mx_uI (mx_uI h6 (.inr (t0, 0)) 11 (-1)) (.inr (t0, 0)) 12 (-1))))))))
theorem f59_eq (t0 : Nat) (h : mx_H) : f59 t0 h = (x_h (f317 (.inr (t0, 2)) 0 (mx_uI (mx_uI h (.inr (t0, 0)) 0 0) (.inr (t0, 0)) 6 0)) (fun h2 => (x_h (f317 (.inr (t0, 3)) 0 h2) (fun h4 => (x_h (f317 (.inr (t0, 4)) 0 h4) (fun h6 => (mx_uI (mx_uI h6 (.inr (t0, 0)) 11 (-1)) (.inr (t0, 0)) 12 (-1)))))))) := x_box_eq _
theorem x59 {E : mx_Ev} {n : Nat} {h : mx_H} {Q : Option mx_V → mx_H → Prop} {t0 : Nat} (hK : (xK_v Q) (f59 t0 h)) : mx_M E n 59 [.inr (.inr (t0, 0))] h Q := by
  cases n with
  | zero => exact mx_L.zero
  | succ n => exact sl59_0 (x_use (x_eq (K := (xK_v Q)) (f59_eq t0 h) hK) (fun hK => (x317 (xh_n (x_hk hK (fun hK => (x317 (xh_n (x_hk hK (fun hK => (x317 (xh_n (x_hk hK (fun hK => hK))))))))))))))
noncomputable def b61 : ((Nat × Int32 × Int32 × Int32 × mx_H)) → ((Nat × Int32 × Int32 × Int32 × mx_H)) ⊕ (Int32)
  | (a0, a1, a2, a3, h) => (if (h.2.1 (.inr (a0, 0)) 6) ≤ a3 then (Sum.inr ((-1) : Int32)) else (if (h.2.1 (.inr (a0, 5)) (Int32.toNatClampNeg a3)) ≠ (if a2 < a1 then a2 else a1) then (Sum.inl (a0, a1, a2, (a3 + 1), h)) else (if (h.2.1 (.inr (a0, 6)) (Int32.toNatClampNeg a3)) ≠ (if a1 < a2 then a2 else a1) then (Sum.inl (a0, a1, a2, (a3 + 1), h)) else (Sum.inr (a3 : Int32)))))
noncomputable def g61_2 (a0 : Nat) (a1 : Int32) (a2 : Int32) (a3 : Int32) (h : mx_H) : Int32 := ml_wh b61 (a0, a1, a2, a3, h)
theorem g61_2_eq (a0 : Nat) (a1 : Int32) (a2 : Int32) (a3 : Int32) (h : mx_H) : g61_2 a0 a1 a2 a3 h = (if (h.2.1 (.inr (a0, 0)) 6) ≤ a3 then ((-1) : Int32) else (if (h.2.1 (.inr (a0, 5)) (Int32.toNatClampNeg a3)) ≠ (if a2 < a1 then a2 else a1) then (g61_2 a0 a1 a2 (a3 + 1) h) else (if (h.2.1 (.inr (a0, 6)) (Int32.toNatClampNeg a3)) ≠ (if a1 < a2 then a2 else a1) then (g61_2 a0 a1 a2 (a3 + 1) h) else (a3 : Int32)))) := by
  unfold g61_2
  rw [ml_wh_eq]
  simp only [b61, ml_go_ite, ml_go_l, ml_go_r, ml_go_opt, ml_go_let, ml_go_h, ml_go_val]
  try rfl
noncomputable def f61 (t0 : Nat) (a1 : Int32) (a2 : Int32) (h : mx_H) : Int32 := x_box (g61_2 t0 a1 a2 0 h)
theorem f61_eq (t0 : Nat) (a1 : Int32) (a2 : Int32) (h : mx_H) : f61 t0 a1 a2 h = (g61_2 t0 a1 a2 0 h) := x_box_eq _
theorem xw61 {E : mx_Ev} {Q : Option mx_V → mx_H → Prop} : ∀ n : Nat, (∀ (a0 : Nat) (a1 : Int32) (a2 : Int32) (a3 : Int32) (h : mx_H), (xK_ip Q h) (g61_2 a0 a1 a2 a3 h) → mx_L E n 61 2 [(0, .inr (.inr (a0, 0))), (1, .inl (.int a1)), (2, .inl (.int a2)), (3, .inl (.int a3))] [] h Q)
  | 0 => fun _ _ _ _ _ _ => mx_L.zero
  | n + 1 => fun a0 a1 a2 a3 h hK => sl61_2 (x_use (x_eq (K := (xK_ip Q h)) (g61_2_eq a0 a1 a2 a3 h) hK) (fun hK => (x_ite hK (fun hK => hK) (fun hK => (fun _ => (x_ite hK (fun hK => ((xw61 n) _ _ _ _ _ hK)) (fun hK => (fun _ => (x_ite hK (fun hK => ((xw61 n) _ _ _ _ _ hK)) (fun hK => hK))))))))))
theorem x61 {E : mx_Ev} {n : Nat} {h : mx_H} {Q : Option mx_V → mx_H → Prop} {t0 : Nat} {a1 : Int32} {a2 : Int32} (hK : (xK_ip Q h) (f61 t0 a1 a2 h)) : mx_M E n 61 [.inr (.inr (t0, 0)), .inl (.int a1), .inl (.int a2)] h Q := by
  cases n with
  | zero => exact mx_L.zero
  | succ n => exact sl61_0 (x_use (x_eq (K := (xK_ip Q h)) (f61_eq t0 a1 a2 h) hK) (fun hK => ((xw61 n) _ _ _ _ _ hK)))
noncomputable def f62 (t0 : Nat) (a1 : Int32) (h : mx_H) : Int32 := x_box ((h.2.1 (.inr (t0, 7)) (Int32.toNatClampNeg a1)) - (h.2.1 (.inr (t0, 8)) (Int32.toNatClampNeg a1)) : Int32)
theorem f62_eq (t0 : Nat) (a1 : Int32) (h : mx_H) : f62 t0 a1 h = ((h.2.1 (.inr (t0, 7)) (Int32.toNatClampNeg a1)) - (h.2.1 (.inr (t0, 8)) (Int32.toNatClampNeg a1)) : Int32) := x_box_eq _
theorem x62 {E : mx_Ev} {n : Nat} {h : mx_H} {Q : Option mx_V → mx_H → Prop} {t0 : Nat} {a1 : Int32} (hK : (xK_ip Q h) (f62 t0 a1 h)) : mx_M E n 62 [.inr (.inr (t0, 0)), .inl (.int a1)] h Q := by
  cases n with
  | zero => exact mx_L.zero
  | succ n => exact sl62_0 (x_use (x_eq (K := (xK_ip Q h)) (f62_eq t0 a1 h) hK) (fun hK => (fun _ => (fun _ => hK))))
noncomputable def f63 (t0 : Nat) (a1 : Int32) (a2 : Int32) (a3 : Int32) (h : mx_H) : mx_H := x_box (if (h.2.1 (.inr (t0, 0)) 6) < 15 then (mx_uI (mx_uI (mx_uI (mx_uI (mx_uI h (.inr (t0, 5)) (Int32.toNatClampNeg (h.2.1 (.inr (t0, 0)) 6)) (if a2 < a1 then a2 else a1)) (.inr (t0, 6)) (Int32.toNatClampNeg ((mx_uI h (.inr (t0, 5)) (Int32.toNatClampNeg (h.2.1 (.inr (t0, 0)) 6)) (if a2 < a1 then a2 else a1)).2.1 (.inr (t0, 0)) 6)) (if a1 < a2 then a2 else a1)) (.inr (t0, 7)) (Int32.toNatClampNeg ((mx_uI (mx_uI h (.inr (t0, 5)) (Int32.toNatClampNeg (h.2.1 (.inr (t0, 0)) 6)) (if a2 < a1 then a2 else a1)) (.inr (t0, 6)) (Int32.toNatClampNeg ((mx_uI h (.inr (t0, 5)) (Int32.toNatClampNeg (h.2.1 (.inr (t0, 0)) 6)) (if a2 < a1 then a2 else a1)).2.1 (.inr (t0, 0)) 6)) (if a1 < a2 then a2 else a1)).2.1 (.inr (t0, 0)) 6)) a3) (.inr (t0, 8)) (Int32.toNatClampNeg ((mx_uI (mx_uI (mx_uI h (.inr (t0, 5)) (Int32.toNatClampNeg (h.2.1 (.inr (t0, 0)) 6)) (if a2 < a1 then a2 else a1)) (.inr (t0, 6)) (Int32.toNatClampNeg ((mx_uI h (.inr (t0, 5)) (Int32.toNatClampNeg (h.2.1 (.inr (t0, 0)) 6)) (if a2 < a1 then a2 else a1)).2.1 (.inr (t0, 0)) 6)) (if a1 < a2 then a2 else a1)) (.inr (t0, 7)) (Int32.toNatClampNeg ((mx_uI (mx_uI h (.inr (t0, 5)) (Int32.toNatClampNeg (h.2.1 (.inr (t0, 0)) 6)) (if a2 < a1 then a2 else a1)) (.inr (t0, 6)) (Int32.toNatClampNeg ((mx_uI h (.inr (t0, 5)) (Int32.toNatClampNeg (h.2.1 (.inr (t0, 0)) 6)) (if a2 < a1 then a2 else a1)).2.1 (.inr (t0, 0)) 6)) (if a1 < a2 then a2 else a1)).2.1 (.inr (t0, 0)) 6)) a3).2.1 (.inr (t0, 0)) 6)) 0) (.inr (t0, 0)) 6 (((mx_uI (mx_uI (mx_uI (mx_uI h (.inr (t0, 5)) (Int32.toNatClampNeg (h.2.1 (.inr (t0, 0)) 6)) (if a2 < a1 then a2 else a1)) (.inr (t0, 6)) (Int32.toNatClampNeg ((mx_uI h (.inr (t0, 5)) (Int32.toNatClampNeg (h.2.1 (.inr (t0, 0)) 6)) (if a2 < a1 then a2 else a1)).2.1 (.inr (t0, 0)) 6)) (if a1 < a2 then a2 else a1)) (.inr (t0, 7)) (Int32.toNatClampNeg ((mx_uI (mx_uI h (.inr (t0, 5)) (Int32.toNatClampNeg (h.2.1 (.inr (t0, 0)) 6)) (if a2 < a1 then a2 else a1)) (.inr (t0, 6)) (Int32.toNatClampNeg ((mx_uI h (.inr (t0, 5)) (Int32.toNatClampNeg (h.2.1 (.inr (t0, 0)) 6)) (if a2 < a1 then a2 else a1)).2.1 (.inr (t0, 0)) 6)) (if a1 < a2 then a2 else a1)).2.1 (.inr (t0, 0)) 6)) a3) (.inr (t0, 8)) (Int32.toNatClampNeg ((mx_uI (mx_uI (mx_uI h (.inr (t0, 5)) (Int32.toNatClampNeg (h.2.1 (.inr (t0, 0)) 6)) (if a2 < a1 then a2 else a1)) (.inr (t0, 6)) (Int32.toNatClampNeg ((mx_uI h (.inr (t0, 5)) (Int32.toNatClampNeg (h.2.1 (.inr (t0, 0)) 6)) (if a2 < a1 then a2 else a1)).2.1 (.inr (t0, 0)) 6)) (if a1 < a2 then a2 else a1)) (.inr (t0, 7)) (Int32.toNatClampNeg ((mx_uI (mx_uI h (.inr (t0, 5)) (Int32.toNatClampNeg (h.2.1 (.inr (t0, 0)) 6)) (if a2 < a1 then a2 else a1)) (.inr (t0, 6)) (Int32.toNatClampNeg ((mx_uI h (.inr (t0, 5)) (Int32.toNatClampNeg (h.2.1 (.inr (t0, 0)) 6)) (if a2 < a1 then a2 else a1)).2.1 (.inr (t0, 0)) 6)) (if a1 < a2 then a2 else a1)).2.1 (.inr (t0, 0)) 6)) a3).2.1 (.inr (t0, 0)) 6)) 0).2.1 (.inr (t0, 0)) 6) + 1)) else h)
theorem f63_eq (t0 : Nat) (a1 : Int32) (a2 : Int32) (a3 : Int32) (h : mx_H) : f63 t0 a1 a2 a3 h = (if (h.2.1 (.inr (t0, 0)) 6) < 15 then (mx_uI (mx_uI (mx_uI (mx_uI (mx_uI h (.inr (t0, 5)) (Int32.toNatClampNeg (h.2.1 (.inr (t0, 0)) 6)) (if a2 < a1 then a2 else a1)) (.inr (t0, 6)) (Int32.toNatClampNeg ((mx_uI h (.inr (t0, 5)) (Int32.toNatClampNeg (h.2.1 (.inr (t0, 0)) 6)) (if a2 < a1 then a2 else a1)).2.1 (.inr (t0, 0)) 6)) (if a1 < a2 then a2 else a1)) (.inr (t0, 7)) (Int32.toNatClampNeg ((mx_uI (mx_uI h (.inr (t0, 5)) (Int32.toNatClampNeg (h.2.1 (.inr (t0, 0)) 6)) (if a2 < a1 then a2 else a1)) (.inr (t0, 6)) (Int32.toNatClampNeg ((mx_uI h (.inr (t0, 5)) (Int32.toNatClampNeg (h.2.1 (.inr (t0, 0)) 6)) (if a2 < a1 then a2 else a1)).2.1 (.inr (t0, 0)) 6)) (if a1 < a2 then a2 else a1)).2.1 (.inr (t0, 0)) 6)) a3) (.inr (t0, 8)) (Int32.toNatClampNeg ((mx_uI (mx_uI (mx_uI h (.inr (t0, 5)) (Int32.toNatClampNeg (h.2.1 (.inr (t0, 0)) 6)) (if a2 < a1 then a2 else a1)) (.inr (t0, 6)) (Int32.toNatClampNeg ((mx_uI h (.inr (t0, 5)) (Int32.toNatClampNeg (h.2.1 (.inr (t0, 0)) 6)) (if a2 < a1 then a2 else a1)).2.1 (.inr (t0, 0)) 6)) (if a1 < a2 then a2 else a1)) (.inr (t0, 7)) (Int32.toNatClampNeg ((mx_uI (mx_uI h (.inr (t0, 5)) (Int32.toNatClampNeg (h.2.1 (.inr (t0, 0)) 6)) (if a2 < a1 then a2 else a1)) (.inr (t0, 6)) (Int32.toNatClampNeg ((mx_uI h (.inr (t0, 5)) (Int32.toNatClampNeg (h.2.1 (.inr (t0, 0)) 6)) (if a2 < a1 then a2 else a1)).2.1 (.inr (t0, 0)) 6)) (if a1 < a2 then a2 else a1)).2.1 (.inr (t0, 0)) 6)) a3).2.1 (.inr (t0, 0)) 6)) 0) (.inr (t0, 0)) 6 (((mx_uI (mx_uI (mx_uI (mx_uI h (.inr (t0, 5)) (Int32.toNatClampNeg (h.2.1 (.inr (t0, 0)) 6)) (if a2 < a1 then a2 else a1)) (.inr (t0, 6)) (Int32.toNatClampNeg ((mx_uI h (.inr (t0, 5)) (Int32.toNatClampNeg (h.2.1 (.inr (t0, 0)) 6)) (if a2 < a1 then a2 else a1)).2.1 (.inr (t0, 0)) 6)) (if a1 < a2 then a2 else a1)) (.inr (t0, 7)) (Int32.toNatClampNeg ((mx_uI (mx_uI h (.inr (t0, 5)) (Int32.toNatClampNeg (h.2.1 (.inr (t0, 0)) 6)) (if a2 < a1 then a2 else a1)) (.inr (t0, 6)) (Int32.toNatClampNeg ((mx_uI h (.inr (t0, 5)) (Int32.toNatClampNeg (h.2.1 (.inr (t0, 0)) 6)) (if a2 < a1 then a2 else a1)).2.1 (.inr (t0, 0)) 6)) (if a1 < a2 then a2 else a1)).2.1 (.inr (t0, 0)) 6)) a3) (.inr (t0, 8)) (Int32.toNatClampNeg ((mx_uI (mx_uI (mx_uI h (.inr (t0, 5)) (Int32.toNatClampNeg (h.2.1 (.inr (t0, 0)) 6)) (if a2 < a1 then a2 else a1)) (.inr (t0, 6)) (Int32.toNatClampNeg ((mx_uI h (.inr (t0, 5)) (Int32.toNatClampNeg (h.2.1 (.inr (t0, 0)) 6)) (if a2 < a1 then a2 else a1)).2.1 (.inr (t0, 0)) 6)) (if a1 < a2 then a2 else a1)) (.inr (t0, 7)) (Int32.toNatClampNeg ((mx_uI (mx_uI h (.inr (t0, 5)) (Int32.toNatClampNeg (h.2.1 (.inr (t0, 0)) 6)) (if a2 < a1 then a2 else a1)) (.inr (t0, 6)) (Int32.toNatClampNeg ((mx_uI h (.inr (t0, 5)) (Int32.toNatClampNeg (h.2.1 (.inr (t0, 0)) 6)) (if a2 < a1 then a2 else a1)).2.1 (.inr (t0, 0)) 6)) (if a1 < a2 then a2 else a1)).2.1 (.inr (t0, 0)) 6)) a3).2.1 (.inr (t0, 0)) 6)) 0).2.1 (.inr (t0, 0)) 6) + 1)) else h) := x_box_eq _
theorem x63 {E : mx_Ev} {n : Nat} {h : mx_H} {Q : Option mx_V → mx_H → Prop} {t0 : Nat} {a1 : Int32} {a2 : Int32} {a3 : Int32} (hK : (xK_v Q) (f63 t0 a1 a2 a3 h)) : mx_M E n 63 [.inr (.inr (t0, 0)), .inl (.int a1), .inl (.int a2), .inl (.int a3)] h Q := by
  cases n with
  | zero => exact mx_L.zero
  | succ n => exact sl63_0 (x_use (x_eq (K := (xK_v Q)) (f63_eq t0 a1 a2 a3 h) hK) (fun hK => (x_ite hK (fun hK => (fun _ => (fun _ => (fun _ => (fun _ => hK))))) (fun hK => hK))))
noncomputable def b64 : ((Nat × Nat × Int32 × Int32 × mx_H) ⊕ (Nat × Nat × Int32 × Int32 × mx_H)) → ((Nat × Nat × Int32 × Int32 × mx_H) ⊕ (Nat × Nat × Int32 × Int32 × mx_H)) ⊕ (mx_H)
  | (.inl (a0, a1, a2, a3, h)) => (if (h.2.1 (.inr (a1, 0)) 0) ≤ a3 then (Sum.inl (.inr (a0, a1, a2, 0, h))) else (if 6 ≤ (h.2.1 (.inr (a0, 0)) 0) then (Sum.inl (.inr (a0, a1, a2, 0, h))) else (Sum.inl (.inl (a0, a1, a2, (a3 + 1), mx_uI (mx_uI (mx_uI (mx_uI (mx_uI h (.inr (a0, 1)) (Int32.toNatClampNeg (h.2.1 (.inr (a0, 0)) 0)) (h.2.1 (.inr (a1, 1)) (Int32.toNatClampNeg a3))) (.inr (a0, 2)) (Int32.toNatClampNeg ((mx_uI h (.inr (a0, 1)) (Int32.toNatClampNeg (h.2.1 (.inr (a0, 0)) 0)) (h.2.1 (.inr (a1, 1)) (Int32.toNatClampNeg a3))).2.1 (.inr (a0, 0)) 0)) ((mx_uI h (.inr (a0, 1)) (Int32.toNatClampNeg (h.2.1 (.inr (a0, 0)) 0)) (h.2.1 (.inr (a1, 1)) (Int32.toNatClampNeg a3))).2.1 (.inr (a1, 2)) (Int32.toNatClampNeg a3))) (.inr (a0, 3)) (Int32.toNatClampNeg ((mx_uI (mx_uI h (.inr (a0, 1)) (Int32.toNatClampNeg (h.2.1 (.inr (a0, 0)) 0)) (h.2.1 (.inr (a1, 1)) (Int32.toNatClampNeg a3))) (.inr (a0, 2)) (Int32.toNatClampNeg ((mx_uI h (.inr (a0, 1)) (Int32.toNatClampNeg (h.2.1 (.inr (a0, 0)) 0)) (h.2.1 (.inr (a1, 1)) (Int32.toNatClampNeg a3))).2.1 (.inr (a0, 0)) 0)) ((mx_uI h (.inr (a0, 1)) (Int32.toNatClampNeg (h.2.1 (.inr (a0, 0)) 0)) (h.2.1 (.inr (a1, 1)) (Int32.toNatClampNeg a3))).2.1 (.inr (a1, 2)) (Int32.toNatClampNeg a3))).2.1 (.inr (a0, 0)) 0)) ((mx_uI (mx_uI h (.inr (a0, 1)) (Int32.toNatClampNeg (h.2.1 (.inr (a0, 0)) 0)) (h.2.1 (.inr (a1, 1)) (Int32.toNatClampNeg a3))) (.inr (a0, 2)) (Int32.toNatClampNeg ((mx_uI h (.inr (a0, 1)) (Int32.toNatClampNeg (h.2.1 (.inr (a0, 0)) 0)) (h.2.1 (.inr (a1, 1)) (Int32.toNatClampNeg a3))).2.1 (.inr (a0, 0)) 0)) ((mx_uI h (.inr (a0, 1)) (Int32.toNatClampNeg (h.2.1 (.inr (a0, 0)) 0)) (h.2.1 (.inr (a1, 1)) (Int32.toNatClampNeg a3))).2.1 (.inr (a1, 2)) (Int32.toNatClampNeg a3))).2.1 (.inr (a1, 3)) (Int32.toNatClampNeg a3))) (.inr (a0, 4)) (Int32.toNatClampNeg ((mx_uI (mx_uI (mx_uI h (.inr (a0, 1)) (Int32.toNatClampNeg (h.2.1 (.inr (a0, 0)) 0)) (h.2.1 (.inr (a1, 1)) (Int32.toNatClampNeg a3))) (.inr (a0, 2)) (Int32.toNatClampNeg ((mx_uI h (.inr (a0, 1)) (Int32.toNatClampNeg (h.2.1 (.inr (a0, 0)) 0)) (h.2.1 (.inr (a1, 1)) (Int32.toNatClampNeg a3))).2.1 (.inr (a0, 0)) 0)) ((mx_uI h (.inr (a0, 1)) (Int32.toNatClampNeg (h.2.1 (.inr (a0, 0)) 0)) (h.2.1 (.inr (a1, 1)) (Int32.toNatClampNeg a3))).2.1 (.inr (a1, 2)) (Int32.toNatClampNeg a3))) (.inr (a0, 3)) (Int32.toNatClampNeg ((mx_uI (mx_uI h (.inr (a0, 1)) (Int32.toNatClampNeg (h.2.1 (.inr (a0, 0)) 0)) (h.2.1 (.inr (a1, 1)) (Int32.toNatClampNeg a3))) (.inr (a0, 2)) (Int32.toNatClampNeg ((mx_uI h (.inr (a0, 1)) (Int32.toNatClampNeg (h.2.1 (.inr (a0, 0)) 0)) (h.2.1 (.inr (a1, 1)) (Int32.toNatClampNeg a3))).2.1 (.inr (a0, 0)) 0)) ((mx_uI h (.inr (a0, 1)) (Int32.toNatClampNeg (h.2.1 (.inr (a0, 0)) 0)) (h.2.1 (.inr (a1, 1)) (Int32.toNatClampNeg a3))).2.1 (.inr (a1, 2)) (Int32.toNatClampNeg a3))).2.1 (.inr (a0, 0)) 0)) ((mx_uI (mx_uI h (.inr (a0, 1)) (Int32.toNatClampNeg (h.2.1 (.inr (a0, 0)) 0)) (h.2.1 (.inr (a1, 1)) (Int32.toNatClampNeg a3))) (.inr (a0, 2)) (Int32.toNatClampNeg ((mx_uI h (.inr (a0, 1)) (Int32.toNatClampNeg (h.2.1 (.inr (a0, 0)) 0)) (h.2.1 (.inr (a1, 1)) (Int32.toNatClampNeg a3))).2.1 (.inr (a0, 0)) 0)) ((mx_uI h (.inr (a0, 1)) (Int32.toNatClampNeg (h.2.1 (.inr (a0, 0)) 0)) (h.2.1 (.inr (a1, 1)) (Int32.toNatClampNeg a3))).2.1 (.inr (a1, 2)) (Int32.toNatClampNeg a3))).2.1 (.inr (a1, 3)) (Int32.toNatClampNeg a3))).2.1 (.inr (a0, 0)) 0)) ((mx_uI (mx_uI (mx_uI h (.inr (a0, 1)) (Int32.toNatClampNeg (h.2.1 (.inr (a0, 0)) 0)) (h.2.1 (.inr (a1, 1)) (Int32.toNatClampNeg a3))) (.inr (a0, 2)) (Int32.toNatClampNeg ((mx_uI h (.inr (a0, 1)) (Int32.toNatClampNeg (h.2.1 (.inr (a0, 0)) 0)) (h.2.1 (.inr (a1, 1)) (Int32.toNatClampNeg a3))).2.1 (.inr (a0, 0)) 0)) ((mx_uI h (.inr (a0, 1)) (Int32.toNatClampNeg (h.2.1 (.inr (a0, 0)) 0)) (h.2.1 (.inr (a1, 1)) (Int32.toNatClampNeg a3))).2.1 (.inr (a1, 2)) (Int32.toNatClampNeg a3))) (.inr (a0, 3)) (Int32.toNatClampNeg ((mx_uI (mx_uI h (.inr (a0, 1)) (Int32.toNatClampNeg (h.2.1 (.inr (a0, 0)) 0)) (h.2.1 (.inr (a1, 1)) (Int32.toNatClampNeg a3))) (.inr (a0, 2)) (Int32.toNatClampNeg ((mx_uI h (.inr (a0, 1)) (Int32.toNatClampNeg (h.2.1 (.inr (a0, 0)) 0)) (h.2.1 (.inr (a1, 1)) (Int32.toNatClampNeg a3))).2.1 (.inr (a0, 0)) 0)) ((mx_uI h (.inr (a0, 1)) (Int32.toNatClampNeg (h.2.1 (.inr (a0, 0)) 0)) (h.2.1 (.inr (a1, 1)) (Int32.toNatClampNeg a3))).2.1 (.inr (a1, 2)) (Int32.toNatClampNeg a3))).2.1 (.inr (a0, 0)) 0)) ((mx_uI (mx_uI h (.inr (a0, 1)) (Int32.toNatClampNeg (h.2.1 (.inr (a0, 0)) 0)) (h.2.1 (.inr (a1, 1)) (Int32.toNatClampNeg a3))) (.inr (a0, 2)) (Int32.toNatClampNeg ((mx_uI h (.inr (a0, 1)) (Int32.toNatClampNeg (h.2.1 (.inr (a0, 0)) 0)) (h.2.1 (.inr (a1, 1)) (Int32.toNatClampNeg a3))).2.1 (.inr (a0, 0)) 0)) ((mx_uI h (.inr (a0, 1)) (Int32.toNatClampNeg (h.2.1 (.inr (a0, 0)) 0)) (h.2.1 (.inr (a1, 1)) (Int32.toNatClampNeg a3))).2.1 (.inr (a1, 2)) (Int32.toNatClampNeg a3))).2.1 (.inr (a1, 3)) (Int32.toNatClampNeg a3))).2.1 (.inr (a1, 4)) (Int32.toNatClampNeg a3))) (.inr (a0, 0)) 0 (((mx_uI (mx_uI (mx_uI (mx_uI h (.inr (a0, 1)) (Int32.toNatClampNeg (h.2.1 (.inr (a0, 0)) 0)) (h.2.1 (.inr (a1, 1)) (Int32.toNatClampNeg a3))) (.inr (a0, 2)) (Int32.toNatClampNeg ((mx_uI h (.inr (a0, 1)) (Int32.toNatClampNeg (h.2.1 (.inr (a0, 0)) 0)) (h.2.1 (.inr (a1, 1)) (Int32.toNatClampNeg a3))).2.1 (.inr (a0, 0)) 0)) ((mx_uI h (.inr (a0, 1)) (Int32.toNatClampNeg (h.2.1 (.inr (a0, 0)) 0)) (h.2.1 (.inr (a1, 1)) (Int32.toNatClampNeg a3))).2.1 (.inr (a1, 2)) (Int32.toNatClampNeg a3))) (.inr (a0, 3)) (Int32.toNatClampNeg ((mx_uI (mx_uI h (.inr (a0, 1)) (Int32.toNatClampNeg (h.2.1 (.inr (a0, 0)) 0)) (h.2.1 (.inr (a1, 1)) (Int32.toNatClampNeg a3))) (.inr (a0, 2)) (Int32.toNatClampNeg ((mx_uI h (.inr (a0, 1)) (Int32.toNatClampNeg (h.2.1 (.inr (a0, 0)) 0)) (h.2.1 (.inr (a1, 1)) (Int32.toNatClampNeg a3))).2.1 (.inr (a0, 0)) 0)) ((mx_uI h (.inr (a0, 1)) (Int32.toNatClampNeg (h.2.1 (.inr (a0, 0)) 0)) (h.2.1 (.inr (a1, 1)) (Int32.toNatClampNeg a3))).2.1 (.inr (a1, 2)) (Int32.toNatClampNeg a3))).2.1 (.inr (a0, 0)) 0)) ((mx_uI (mx_uI h (.inr (a0, 1)) (Int32.toNatClampNeg (h.2.1 (.inr (a0, 0)) 0)) (h.2.1 (.inr (a1, 1)) (Int32.toNatClampNeg a3))) (.inr (a0, 2)) (Int32.toNatClampNeg ((mx_uI h (.inr (a0, 1)) (Int32.toNatClampNeg (h.2.1 (.inr (a0, 0)) 0)) (h.2.1 (.inr (a1, 1)) (Int32.toNatClampNeg a3))).2.1 (.inr (a0, 0)) 0)) ((mx_uI h (.inr (a0, 1)) (Int32.toNatClampNeg (h.2.1 (.inr (a0, 0)) 0)) (h.2.1 (.inr (a1, 1)) (Int32.toNatClampNeg a3))).2.1 (.inr (a1, 2)) (Int32.toNatClampNeg a3))).2.1 (.inr (a1, 3)) (Int32.toNatClampNeg a3))) (.inr (a0, 4)) (Int32.toNatClampNeg ((mx_uI (mx_uI (mx_uI h (.inr (a0, 1)) (Int32.toNatClampNeg (h.2.1 (.inr (a0, 0)) 0)) (h.2.1 (.inr (a1, 1)) (Int32.toNatClampNeg a3))) (.inr (a0, 2)) (Int32.toNatClampNeg ((mx_uI h (.inr (a0, 1)) (Int32.toNatClampNeg (h.2.1 (.inr (a0, 0)) 0)) (h.2.1 (.inr (a1, 1)) (Int32.toNatClampNeg a3))).2.1 (.inr (a0, 0)) 0)) ((mx_uI h (.inr (a0, 1)) (Int32.toNatClampNeg (h.2.1 (.inr (a0, 0)) 0)) (h.2.1 (.inr (a1, 1)) (Int32.toNatClampNeg a3))).2.1 (.inr (a1, 2)) (Int32.toNatClampNeg a3))) (.inr (a0, 3)) (Int32.toNatClampNeg ((mx_uI (mx_uI h (.inr (a0, 1)) (Int32.toNatClampNeg (h.2.1 (.inr (a0, 0)) 0)) (h.2.1 (.inr (a1, 1)) (Int32.toNatClampNeg a3))) (.inr (a0, 2)) (Int32.toNatClampNeg ((mx_uI h (.inr (a0, 1)) (Int32.toNatClampNeg (h.2.1 (.inr (a0, 0)) 0)) (h.2.1 (.inr (a1, 1)) (Int32.toNatClampNeg a3))).2.1 (.inr (a0, 0)) 0)) ((mx_uI h (.inr (a0, 1)) (Int32.toNatClampNeg (h.2.1 (.inr (a0, 0)) 0)) (h.2.1 (.inr (a1, 1)) (Int32.toNatClampNeg a3))).2.1 (.inr (a1, 2)) (Int32.toNatClampNeg a3))).2.1 (.inr (a0, 0)) 0)) ((mx_uI (mx_uI h (.inr (a0, 1)) (Int32.toNatClampNeg (h.2.1 (.inr (a0, 0)) 0)) (h.2.1 (.inr (a1, 1)) (Int32.toNatClampNeg a3))) (.inr (a0, 2)) (Int32.toNatClampNeg ((mx_uI h (.inr (a0, 1)) (Int32.toNatClampNeg (h.2.1 (.inr (a0, 0)) 0)) (h.2.1 (.inr (a1, 1)) (Int32.toNatClampNeg a3))).2.1 (.inr (a0, 0)) 0)) ((mx_uI h (.inr (a0, 1)) (Int32.toNatClampNeg (h.2.1 (.inr (a0, 0)) 0)) (h.2.1 (.inr (a1, 1)) (Int32.toNatClampNeg a3))).2.1 (.inr (a1, 2)) (Int32.toNatClampNeg a3))).2.1 (.inr (a1, 3)) (Int32.toNatClampNeg a3))).2.1 (.inr (a0, 0)) 0)) ((mx_uI (mx_uI (mx_uI h (.inr (a0, 1)) (Int32.toNatClampNeg (h.2.1 (.inr (a0, 0)) 0)) (h.2.1 (.inr (a1, 1)) (Int32.toNatClampNeg a3))) (.inr (a0, 2)) (Int32.toNatClampNeg ((mx_uI h (.inr (a0, 1)) (Int32.toNatClampNeg (h.2.1 (.inr (a0, 0)) 0)) (h.2.1 (.inr (a1, 1)) (Int32.toNatClampNeg a3))).2.1 (.inr (a0, 0)) 0)) ((mx_uI h (.inr (a0, 1)) (Int32.toNatClampNeg (h.2.1 (.inr (a0, 0)) 0)) (h.2.1 (.inr (a1, 1)) (Int32.toNatClampNeg a3))).2.1 (.inr (a1, 2)) (Int32.toNatClampNeg a3))) (.inr (a0, 3)) (Int32.toNatClampNeg ((mx_uI (mx_uI h (.inr (a0, 1)) (Int32.toNatClampNeg (h.2.1 (.inr (a0, 0)) 0)) (h.2.1 (.inr (a1, 1)) (Int32.toNatClampNeg a3))) (.inr (a0, 2)) (Int32.toNatClampNeg ((mx_uI h (.inr (a0, 1)) (Int32.toNatClampNeg (h.2.1 (.inr (a0, 0)) 0)) (h.2.1 (.inr (a1, 1)) (Int32.toNatClampNeg a3))).2.1 (.inr (a0, 0)) 0)) ((mx_uI h (.inr (a0, 1)) (Int32.toNatClampNeg (h.2.1 (.inr (a0, 0)) 0)) (h.2.1 (.inr (a1, 1)) (Int32.toNatClampNeg a3))).2.1 (.inr (a1, 2)) (Int32.toNatClampNeg a3))).2.1 (.inr (a0, 0)) 0)) ((mx_uI (mx_uI h (.inr (a0, 1)) (Int32.toNatClampNeg (h.2.1 (.inr (a0, 0)) 0)) (h.2.1 (.inr (a1, 1)) (Int32.toNatClampNeg a3))) (.inr (a0, 2)) (Int32.toNatClampNeg ((mx_uI h (.inr (a0, 1)) (Int32.toNatClampNeg (h.2.1 (.inr (a0, 0)) 0)) (h.2.1 (.inr (a1, 1)) (Int32.toNatClampNeg a3))).2.1 (.inr (a0, 0)) 0)) ((mx_uI h (.inr (a0, 1)) (Int32.toNatClampNeg (h.2.1 (.inr (a0, 0)) 0)) (h.2.1 (.inr (a1, 1)) (Int32.toNatClampNeg a3))).2.1 (.inr (a1, 2)) (Int32.toNatClampNeg a3))).2.1 (.inr (a1, 3)) (Int32.toNatClampNeg a3))).2.1 (.inr (a1, 4)) (Int32.toNatClampNeg a3))).2.1 (.inr (a0, 0)) 0) + 1))))))
  | (.inr (a0, a1, a2, a3, h)) => (if (h.2.1 (.inr (a1, 0)) 6) ≤ a3 then (Sum.inr h) else (if 15 ≤ (h.2.1 (.inr (a0, 0)) 6) then (Sum.inr h) else (x_h (f63 a0 (a2 + (h.2.1 (.inr (a1, 5)) (Int32.toNatClampNeg a3))) (a2 + (h.2.1 (.inr (a1, 6)) (Int32.toNatClampNeg a3))) (h.2.1 (.inr (a1, 7)) (Int32.toNatClampNeg a3)) h) (fun h2 => (Sum.inl (.inr (a0, a1, a2, (a3 + 1), mx_uI h2 (.inr (a0, 8)) (Int32.toNatClampNeg ((h2.2.1 (.inr (a0, 0)) 6) - 1)) (h2.2.1 (.inr (a1, 8)) (Int32.toNatClampNeg a3)))))))))
noncomputable def g64_7 (a0 : Nat) (a1 : Nat) (a2 : Int32) (a3 : Int32) (h : mx_H) : mx_H := ml_wh b64 (.inl (a0, a1, a2, a3, h))
noncomputable def g64_102 (a0 : Nat) (a1 : Nat) (a2 : Int32) (a3 : Int32) (h : mx_H) : mx_H := ml_wh b64 (.inr (a0, a1, a2, a3, h))
theorem g64_7_eq (a0 : Nat) (a1 : Nat) (a2 : Int32) (a3 : Int32) (h : mx_H) : g64_7 a0 a1 a2 a3 h = (if (h.2.1 (.inr (a1, 0)) 0) ≤ a3 then (g64_102 a0 a1 a2 0 h) else (if 6 ≤ (h.2.1 (.inr (a0, 0)) 0) then (g64_102 a0 a1 a2 0 h) else (g64_7 a0 a1 a2 (a3 + 1) (mx_uI (mx_uI (mx_uI (mx_uI (mx_uI h (.inr (a0, 1)) (Int32.toNatClampNeg (h.2.1 (.inr (a0, 0)) 0)) (h.2.1 (.inr (a1, 1)) (Int32.toNatClampNeg a3))) (.inr (a0, 2)) (Int32.toNatClampNeg ((mx_uI h (.inr (a0, 1)) (Int32.toNatClampNeg (h.2.1 (.inr (a0, 0)) 0)) (h.2.1 (.inr (a1, 1)) (Int32.toNatClampNeg a3))).2.1 (.inr (a0, 0)) 0)) ((mx_uI h (.inr (a0, 1)) (Int32.toNatClampNeg (h.2.1 (.inr (a0, 0)) 0)) (h.2.1 (.inr (a1, 1)) (Int32.toNatClampNeg a3))).2.1 (.inr (a1, 2)) (Int32.toNatClampNeg a3))) (.inr (a0, 3)) (Int32.toNatClampNeg ((mx_uI (mx_uI h (.inr (a0, 1)) (Int32.toNatClampNeg (h.2.1 (.inr (a0, 0)) 0)) (h.2.1 (.inr (a1, 1)) (Int32.toNatClampNeg a3))) (.inr (a0, 2)) (Int32.toNatClampNeg ((mx_uI h (.inr (a0, 1)) (Int32.toNatClampNeg (h.2.1 (.inr (a0, 0)) 0)) (h.2.1 (.inr (a1, 1)) (Int32.toNatClampNeg a3))).2.1 (.inr (a0, 0)) 0)) ((mx_uI h (.inr (a0, 1)) (Int32.toNatClampNeg (h.2.1 (.inr (a0, 0)) 0)) (h.2.1 (.inr (a1, 1)) (Int32.toNatClampNeg a3))).2.1 (.inr (a1, 2)) (Int32.toNatClampNeg a3))).2.1 (.inr (a0, 0)) 0)) ((mx_uI (mx_uI h (.inr (a0, 1)) (Int32.toNatClampNeg (h.2.1 (.inr (a0, 0)) 0)) (h.2.1 (.inr (a1, 1)) (Int32.toNatClampNeg a3))) (.inr (a0, 2)) (Int32.toNatClampNeg ((mx_uI h (.inr (a0, 1)) (Int32.toNatClampNeg (h.2.1 (.inr (a0, 0)) 0)) (h.2.1 (.inr (a1, 1)) (Int32.toNatClampNeg a3))).2.1 (.inr (a0, 0)) 0)) ((mx_uI h (.inr (a0, 1)) (Int32.toNatClampNeg (h.2.1 (.inr (a0, 0)) 0)) (h.2.1 (.inr (a1, 1)) (Int32.toNatClampNeg a3))).2.1 (.inr (a1, 2)) (Int32.toNatClampNeg a3))).2.1 (.inr (a1, 3)) (Int32.toNatClampNeg a3))) (.inr (a0, 4)) (Int32.toNatClampNeg ((mx_uI (mx_uI (mx_uI h (.inr (a0, 1)) (Int32.toNatClampNeg (h.2.1 (.inr (a0, 0)) 0)) (h.2.1 (.inr (a1, 1)) (Int32.toNatClampNeg a3))) (.inr (a0, 2)) (Int32.toNatClampNeg ((mx_uI h (.inr (a0, 1)) (Int32.toNatClampNeg (h.2.1 (.inr (a0, 0)) 0)) (h.2.1 (.inr (a1, 1)) (Int32.toNatClampNeg a3))).2.1 (.inr (a0, 0)) 0)) ((mx_uI h (.inr (a0, 1)) (Int32.toNatClampNeg (h.2.1 (.inr (a0, 0)) 0)) (h.2.1 (.inr (a1, 1)) (Int32.toNatClampNeg a3))).2.1 (.inr (a1, 2)) (Int32.toNatClampNeg a3))) (.inr (a0, 3)) (Int32.toNatClampNeg ((mx_uI (mx_uI h (.inr (a0, 1)) (Int32.toNatClampNeg (h.2.1 (.inr (a0, 0)) 0)) (h.2.1 (.inr (a1, 1)) (Int32.toNatClampNeg a3))) (.inr (a0, 2)) (Int32.toNatClampNeg ((mx_uI h (.inr (a0, 1)) (Int32.toNatClampNeg (h.2.1 (.inr (a0, 0)) 0)) (h.2.1 (.inr (a1, 1)) (Int32.toNatClampNeg a3))).2.1 (.inr (a0, 0)) 0)) ((mx_uI h (.inr (a0, 1)) (Int32.toNatClampNeg (h.2.1 (.inr (a0, 0)) 0)) (h.2.1 (.inr (a1, 1)) (Int32.toNatClampNeg a3))).2.1 (.inr (a1, 2)) (Int32.toNatClampNeg a3))).2.1 (.inr (a0, 0)) 0)) ((mx_uI (mx_uI h (.inr (a0, 1)) (Int32.toNatClampNeg (h.2.1 (.inr (a0, 0)) 0)) (h.2.1 (.inr (a1, 1)) (Int32.toNatClampNeg a3))) (.inr (a0, 2)) (Int32.toNatClampNeg ((mx_uI h (.inr (a0, 1)) (Int32.toNatClampNeg (h.2.1 (.inr (a0, 0)) 0)) (h.2.1 (.inr (a1, 1)) (Int32.toNatClampNeg a3))).2.1 (.inr (a0, 0)) 0)) ((mx_uI h (.inr (a0, 1)) (Int32.toNatClampNeg (h.2.1 (.inr (a0, 0)) 0)) (h.2.1 (.inr (a1, 1)) (Int32.toNatClampNeg a3))).2.1 (.inr (a1, 2)) (Int32.toNatClampNeg a3))).2.1 (.inr (a1, 3)) (Int32.toNatClampNeg a3))).2.1 (.inr (a0, 0)) 0)) ((mx_uI (mx_uI (mx_uI h (.inr (a0, 1)) (Int32.toNatClampNeg (h.2.1 (.inr (a0, 0)) 0)) (h.2.1 (.inr (a1, 1)) (Int32.toNatClampNeg a3))) (.inr (a0, 2)) (Int32.toNatClampNeg ((mx_uI h (.inr (a0, 1)) (Int32.toNatClampNeg (h.2.1 (.inr (a0, 0)) 0)) (h.2.1 (.inr (a1, 1)) (Int32.toNatClampNeg a3))).2.1 (.inr (a0, 0)) 0)) ((mx_uI h (.inr (a0, 1)) (Int32.toNatClampNeg (h.2.1 (.inr (a0, 0)) 0)) (h.2.1 (.inr (a1, 1)) (Int32.toNatClampNeg a3))).2.1 (.inr (a1, 2)) (Int32.toNatClampNeg a3))) (.inr (a0, 3)) (Int32.toNatClampNeg ((mx_uI (mx_uI h (.inr (a0, 1)) (Int32.toNatClampNeg (h.2.1 (.inr (a0, 0)) 0)) (h.2.1 (.inr (a1, 1)) (Int32.toNatClampNeg a3))) (.inr (a0, 2)) (Int32.toNatClampNeg ((mx_uI h (.inr (a0, 1)) (Int32.toNatClampNeg (h.2.1 (.inr (a0, 0)) 0)) (h.2.1 (.inr (a1, 1)) (Int32.toNatClampNeg a3))).2.1 (.inr (a0, 0)) 0)) ((mx_uI h (.inr (a0, 1)) (Int32.toNatClampNeg (h.2.1 (.inr (a0, 0)) 0)) (h.2.1 (.inr (a1, 1)) (Int32.toNatClampNeg a3))).2.1 (.inr (a1, 2)) (Int32.toNatClampNeg a3))).2.1 (.inr (a0, 0)) 0)) ((mx_uI (mx_uI h (.inr (a0, 1)) (Int32.toNatClampNeg (h.2.1 (.inr (a0, 0)) 0)) (h.2.1 (.inr (a1, 1)) (Int32.toNatClampNeg a3))) (.inr (a0, 2)) (Int32.toNatClampNeg ((mx_uI h (.inr (a0, 1)) (Int32.toNatClampNeg (h.2.1 (.inr (a0, 0)) 0)) (h.2.1 (.inr (a1, 1)) (Int32.toNatClampNeg a3))).2.1 (.inr (a0, 0)) 0)) ((mx_uI h (.inr (a0, 1)) (Int32.toNatClampNeg (h.2.1 (.inr (a0, 0)) 0)) (h.2.1 (.inr (a1, 1)) (Int32.toNatClampNeg a3))).2.1 (.inr (a1, 2)) (Int32.toNatClampNeg a3))).2.1 (.inr (a1, 3)) (Int32.toNatClampNeg a3))).2.1 (.inr (a1, 4)) (Int32.toNatClampNeg a3))) (.inr (a0, 0)) 0 (((mx_uI (mx_uI (mx_uI (mx_uI h (.inr (a0, 1)) (Int32.toNatClampNeg (h.2.1 (.inr (a0, 0)) 0)) (h.2.1 (.inr (a1, 1)) (Int32.toNatClampNeg a3))) (.inr (a0, 2)) (Int32.toNatClampNeg ((mx_uI h (.inr (a0, 1)) (Int32.toNatClampNeg (h.2.1 (.inr (a0, 0)) 0)) (h.2.1 (.inr (a1, 1)) (Int32.toNatClampNeg a3))).2.1 (.inr (a0, 0)) 0)) ((mx_uI h (.inr (a0, 1)) (Int32.toNatClampNeg (h.2.1 (.inr (a0, 0)) 0)) (h.2.1 (.inr (a1, 1)) (Int32.toNatClampNeg a3))).2.1 (.inr (a1, 2)) (Int32.toNatClampNeg a3))) (.inr (a0, 3)) (Int32.toNatClampNeg ((mx_uI (mx_uI h (.inr (a0, 1)) (Int32.toNatClampNeg (h.2.1 (.inr (a0, 0)) 0)) (h.2.1 (.inr (a1, 1)) (Int32.toNatClampNeg a3))) (.inr (a0, 2)) (Int32.toNatClampNeg ((mx_uI h (.inr (a0, 1)) (Int32.toNatClampNeg (h.2.1 (.inr (a0, 0)) 0)) (h.2.1 (.inr (a1, 1)) (Int32.toNatClampNeg a3))).2.1 (.inr (a0, 0)) 0)) ((mx_uI h (.inr (a0, 1)) (Int32.toNatClampNeg (h.2.1 (.inr (a0, 0)) 0)) (h.2.1 (.inr (a1, 1)) (Int32.toNatClampNeg a3))).2.1 (.inr (a1, 2)) (Int32.toNatClampNeg a3))).2.1 (.inr (a0, 0)) 0)) ((mx_uI (mx_uI h (.inr (a0, 1)) (Int32.toNatClampNeg (h.2.1 (.inr (a0, 0)) 0)) (h.2.1 (.inr (a1, 1)) (Int32.toNatClampNeg a3))) (.inr (a0, 2)) (Int32.toNatClampNeg ((mx_uI h (.inr (a0, 1)) (Int32.toNatClampNeg (h.2.1 (.inr (a0, 0)) 0)) (h.2.1 (.inr (a1, 1)) (Int32.toNatClampNeg a3))).2.1 (.inr (a0, 0)) 0)) ((mx_uI h (.inr (a0, 1)) (Int32.toNatClampNeg (h.2.1 (.inr (a0, 0)) 0)) (h.2.1 (.inr (a1, 1)) (Int32.toNatClampNeg a3))).2.1 (.inr (a1, 2)) (Int32.toNatClampNeg a3))).2.1 (.inr (a1, 3)) (Int32.toNatClampNeg a3))) (.inr (a0, 4)) (Int32.toNatClampNeg ((mx_uI (mx_uI (mx_uI h (.inr (a0, 1)) (Int32.toNatClampNeg (h.2.1 (.inr (a0, 0)) 0)) (h.2.1 (.inr (a1, 1)) (Int32.toNatClampNeg a3))) (.inr (a0, 2)) (Int32.toNatClampNeg ((mx_uI h (.inr (a0, 1)) (Int32.toNatClampNeg (h.2.1 (.inr (a0, 0)) 0)) (h.2.1 (.inr (a1, 1)) (Int32.toNatClampNeg a3))).2.1 (.inr (a0, 0)) 0)) ((mx_uI h (.inr (a0, 1)) (Int32.toNatClampNeg (h.2.1 (.inr (a0, 0)) 0)) (h.2.1 (.inr (a1, 1)) (Int32.toNatClampNeg a3))).2.1 (.inr (a1, 2)) (Int32.toNatClampNeg a3))) (.inr (a0, 3)) (Int32.toNatClampNeg ((mx_uI (mx_uI h (.inr (a0, 1)) (Int32.toNatClampNeg (h.2.1 (.inr (a0, 0)) 0)) (h.2.1 (.inr (a1, 1)) (Int32.toNatClampNeg a3))) (.inr (a0, 2)) (Int32.toNatClampNeg ((mx_uI h (.inr (a0, 1)) (Int32.toNatClampNeg (h.2.1 (.inr (a0, 0)) 0)) (h.2.1 (.inr (a1, 1)) (Int32.toNatClampNeg a3))).2.1 (.inr (a0, 0)) 0)) ((mx_uI h (.inr (a0, 1)) (Int32.toNatClampNeg (h.2.1 (.inr (a0, 0)) 0)) (h.2.1 (.inr (a1, 1)) (Int32.toNatClampNeg a3))).2.1 (.inr (a1, 2)) (Int32.toNatClampNeg a3))).2.1 (.inr (a0, 0)) 0)) ((mx_uI (mx_uI h (.inr (a0, 1)) (Int32.toNatClampNeg (h.2.1 (.inr (a0, 0)) 0)) (h.2.1 (.inr (a1, 1)) (Int32.toNatClampNeg a3))) (.inr (a0, 2)) (Int32.toNatClampNeg ((mx_uI h (.inr (a0, 1)) (Int32.toNatClampNeg (h.2.1 (.inr (a0, 0)) 0)) (h.2.1 (.inr (a1, 1)) (Int32.toNatClampNeg a3))).2.1 (.inr (a0, 0)) 0)) ((mx_uI h (.inr (a0, 1)) (Int32.toNatClampNeg (h.2.1 (.inr (a0, 0)) 0)) (h.2.1 (.inr (a1, 1)) (Int32.toNatClampNeg a3))).2.1 (.inr (a1, 2)) (Int32.toNatClampNeg a3))).2.1 (.inr (a1, 3)) (Int32.toNatClampNeg a3))).2.1 (.inr (a0, 0)) 0)) ((mx_uI (mx_uI (mx_uI h (.inr (a0, 1)) (Int32.toNatClampNeg (h.2.1 (.inr (a0, 0)) 0)) (h.2.1 (.inr (a1, 1)) (Int32.toNatClampNeg a3))) (.inr (a0, 2)) (Int32.toNatClampNeg ((mx_uI h (.inr (a0, 1)) (Int32.toNatClampNeg (h.2.1 (.inr (a0, 0)) 0)) (h.2.1 (.inr (a1, 1)) (Int32.toNatClampNeg a3))).2.1 (.inr (a0, 0)) 0)) ((mx_uI h (.inr (a0, 1)) (Int32.toNatClampNeg (h.2.1 (.inr (a0, 0)) 0)) (h.2.1 (.inr (a1, 1)) (Int32.toNatClampNeg a3))).2.1 (.inr (a1, 2)) (Int32.toNatClampNeg a3))) (.inr (a0, 3)) (Int32.toNatClampNeg ((mx_uI (mx_uI h (.inr (a0, 1)) (Int32.toNatClampNeg (h.2.1 (.inr (a0, 0)) 0)) (h.2.1 (.inr (a1, 1)) (Int32.toNatClampNeg a3))) (.inr (a0, 2)) (Int32.toNatClampNeg ((mx_uI h (.inr (a0, 1)) (Int32.toNatClampNeg (h.2.1 (.inr (a0, 0)) 0)) (h.2.1 (.inr (a1, 1)) (Int32.toNatClampNeg a3))).2.1 (.inr (a0, 0)) 0)) ((mx_uI h (.inr (a0, 1)) (Int32.toNatClampNeg (h.2.1 (.inr (a0, 0)) 0)) (h.2.1 (.inr (a1, 1)) (Int32.toNatClampNeg a3))).2.1 (.inr (a1, 2)) (Int32.toNatClampNeg a3))).2.1 (.inr (a0, 0)) 0)) ((mx_uI (mx_uI h (.inr (a0, 1)) (Int32.toNatClampNeg (h.2.1 (.inr (a0, 0)) 0)) (h.2.1 (.inr (a1, 1)) (Int32.toNatClampNeg a3))) (.inr (a0, 2)) (Int32.toNatClampNeg ((mx_uI h (.inr (a0, 1)) (Int32.toNatClampNeg (h.2.1 (.inr (a0, 0)) 0)) (h.2.1 (.inr (a1, 1)) (Int32.toNatClampNeg a3))).2.1 (.inr (a0, 0)) 0)) ((mx_uI h (.inr (a0, 1)) (Int32.toNatClampNeg (h.2.1 (.inr (a0, 0)) 0)) (h.2.1 (.inr (a1, 1)) (Int32.toNatClampNeg a3))).2.1 (.inr (a1, 2)) (Int32.toNatClampNeg a3))).2.1 (.inr (a1, 3)) (Int32.toNatClampNeg a3))).2.1 (.inr (a1, 4)) (Int32.toNatClampNeg a3))).2.1 (.inr (a0, 0)) 0) + 1))))) := by
  unfold g64_7
  rw [ml_wh_eq]
  simp only [b64, ml_go_ite, ml_go_l, ml_go_r, ml_go_opt, ml_go_let, ml_go_h, ml_go_val]
  try rfl
theorem g64_102_eq (a0 : Nat) (a1 : Nat) (a2 : Int32) (a3 : Int32) (h : mx_H) : g64_102 a0 a1 a2 a3 h = (if (h.2.1 (.inr (a1, 0)) 6) ≤ a3 then h else (if 15 ≤ (h.2.1 (.inr (a0, 0)) 6) then h else (x_h (f63 a0 (a2 + (h.2.1 (.inr (a1, 5)) (Int32.toNatClampNeg a3))) (a2 + (h.2.1 (.inr (a1, 6)) (Int32.toNatClampNeg a3))) (h.2.1 (.inr (a1, 7)) (Int32.toNatClampNeg a3)) h) (fun h2 => (g64_102 a0 a1 a2 (a3 + 1) (mx_uI h2 (.inr (a0, 8)) (Int32.toNatClampNeg ((h2.2.1 (.inr (a0, 0)) 6) - 1)) (h2.2.1 (.inr (a1, 8)) (Int32.toNatClampNeg a3)))))))) := by
  unfold g64_102
  rw [ml_wh_eq]
  simp only [b64, ml_go_ite, ml_go_l, ml_go_r, ml_go_opt, ml_go_let, ml_go_h, ml_go_val]
  try rfl
noncomputable def f64 (t0 : Nat) (a1 : Nat) (h : mx_H) : mx_H := x_box (g64_7 t0 a1 (h.2.1 (.inr (t0, 0)) 0) 0 h)
theorem f64_eq (t0 : Nat) (a1 : Nat) (h : mx_H) : f64 t0 a1 h = (g64_7 t0 a1 (h.2.1 (.inr (t0, 0)) 0) 0 h) := x_box_eq _
theorem xw64 {E : mx_Ev} {Q : Option mx_V → mx_H → Prop} : ∀ n : Nat, (∀ (a0 : Nat) (a1 : Nat) (a2 : Int32) (a3 : Int32) (h : mx_H), (xK_v Q) (g64_7 a0 a1 a2 a3 h) → mx_L E n 64 7 [(0, .inr (.inr (a0, 0))), (1, .inr (.inr (a1, 0))), (2, .inl (.int a2)), (3, .inl (.int a3))] [] h Q) ∧ (∀ (a0 : Nat) (a1 : Nat) (a2 : Int32) (a3 : Int32) (h : mx_H), (xK_v Q) (g64_102 a0 a1 a2 a3 h) → mx_L E n 64 102 [(0, .inr (.inr (a0, 0))), (1, .inr (.inr (a1, 0))), (2, .inl (.int a2)), (3, .inl (.int a3))] [] h Q)
  | 0 => ⟨fun _ _ _ _ _ _ => mx_L.zero, fun _ _ _ _ _ _ => mx_L.zero⟩
  | n + 1 => ⟨fun a0 a1 a2 a3 h hK => sl64_7 (x_use (x_eq (K := (xK_v Q)) (g64_7_eq a0 a1 a2 a3 h) hK) (fun hK => (x_ite hK (fun hK => ((xw64 n).2 _ _ _ _ _ hK)) (fun hK => (x_ite hK (fun hK => ((xw64 n).2 _ _ _ _ _ hK)) (fun hK => (fun _ => (fun _ => (fun _ => (fun _ => (fun _ => (fun _ => (fun _ => (fun _ => ((xw64 n).1 _ _ _ _ _ hK))))))))))))))), fun a0 a1 a2 a3 h hK => sl64_102 (x_use (x_eq (K := (xK_v Q)) (g64_102_eq a0 a1 a2 a3 h) hK) (fun hK => (x_ite hK (fun hK => hK) (fun hK => (x_ite hK (fun hK => hK) (fun hK => (fun _ => (fun _ => (fun _ => (x63 (xh_n (x_hk hK (fun hK => (fun _ => (fun _ => ((xw64 n).2 _ _ _ _ _ hK))))))))))))))))⟩
theorem x64 {E : mx_Ev} {n : Nat} {h : mx_H} {Q : Option mx_V → mx_H → Prop} {t0 : Nat} {a1 : Nat} (hK : (xK_v Q) (f64 t0 a1 h)) : mx_M E n 64 [.inr (.inr (t0, 0)), .inr (.inr (a1, 0))] h Q := by
  cases n with
  | zero => exact mx_L.zero
  | succ n => exact sl64_0 (x_use (x_eq (K := (xK_v Q)) (f64_eq t0 a1 h) hK) (fun hK => ((xw64 n).1 _ _ _ _ _ hK)))
noncomputable def f65 (a0 : Int32) (a1 : Int32) : Int32 := x_box ((10 * a0) + a1 : Int32)
theorem f65_eq (a0 : Int32) (a1 : Int32) : f65 a0 a1 = ((10 * a0) + a1 : Int32) := x_box_eq _
theorem x65 {E : mx_Ev} {n : Nat} {h : mx_H} {Q : Option mx_V → mx_H → Prop} {a0 : Int32} {a1 : Int32} (hK : (xK_ip Q h) (f65 a0 a1)) : mx_M E n 65 [.inl (.int a0), .inl (.int a1)] h Q := by
  cases n with
  | zero => exact mx_L.zero
  | succ n => exact sl65_0 (x_use (x_eq (K := (xK_ip Q h)) (f65_eq a0 a1) hK) (fun hK => hK))
noncomputable def b66 : ((Nat × Int32 × mx_H) ⊕ (Nat × Int32 × mx_H) ⊕ (Nat × Int32 × mx_H) ⊕ (Nat × Int32 × mx_H) ⊕ (Nat × Int32 × mx_H)) → ((Nat × Int32 × mx_H) ⊕ (Nat × Int32 × mx_H) ⊕ (Nat × Int32 × mx_H) ⊕ (Nat × Int32 × mx_H) ⊕ (Nat × Int32 × mx_H)) ⊕ (Int32)
  | (.inl (a0, a2, h)) => (Sum.inr (h.2.1 (.inr (a0, 2)) (Int32.toNatClampNeg a2) : Int32))
  | (.inr (.inl (a0, a2, h))) => (Sum.inr (h.2.1 (.inr (a0, 3)) (Int32.toNatClampNeg a2) : Int32))
  | (.inr (.inr (.inl (a0, a2, h)))) => (Sum.inr (h.2.1 (.inr (a0, 4)) (Int32.toNatClampNeg a2) : Int32))
  | (.inr (.inr (.inr (.inl (a0, a2, h))))) => (Sum.inr (h.2.1 (.inr (a0, 1)) (Int32.toNatClampNeg a2) : Int32))
  | (.inr (.inr (.inr (.inr (a0, a2, h))))) => (Sum.inr ((f65 (h.2.1 (.inr (a0, 7)) (Int32.toNatClampNeg a2)) (h.2.1 (.inr (a0, 8)) (Int32.toNatClampNeg a2))) : Int32))
noncomputable def g66_32 (a0 : Nat) (a2 : Int32) (h : mx_H) : Int32 := ml_wh b66 (.inl (a0, a2, h))
noncomputable def g66_39 (a0 : Nat) (a2 : Int32) (h : mx_H) : Int32 := ml_wh b66 (.inr (.inl (a0, a2, h)))
noncomputable def g66_46 (a0 : Nat) (a2 : Int32) (h : mx_H) : Int32 := ml_wh b66 (.inr (.inr (.inl (a0, a2, h))))
noncomputable def g66_53 (a0 : Nat) (a2 : Int32) (h : mx_H) : Int32 := ml_wh b66 (.inr (.inr (.inr (.inl (a0, a2, h)))))
noncomputable def g66_60 (a0 : Nat) (a2 : Int32) (h : mx_H) : Int32 := ml_wh b66 (.inr (.inr (.inr (.inr (a0, a2, h)))))
theorem g66_32_eq (a0 : Nat) (a2 : Int32) (h : mx_H) : g66_32 a0 a2 h = (h.2.1 (.inr (a0, 2)) (Int32.toNatClampNeg a2) : Int32) := by
  unfold g66_32
  rw [ml_wh_eq]
  simp only [b66, ml_go_ite, ml_go_l, ml_go_r, ml_go_opt, ml_go_let, ml_go_h, ml_go_val]
  try rfl
theorem g66_39_eq (a0 : Nat) (a2 : Int32) (h : mx_H) : g66_39 a0 a2 h = (h.2.1 (.inr (a0, 3)) (Int32.toNatClampNeg a2) : Int32) := by
  unfold g66_39
  rw [ml_wh_eq]
  simp only [b66, ml_go_ite, ml_go_l, ml_go_r, ml_go_opt, ml_go_let, ml_go_h, ml_go_val]
  try rfl
theorem g66_46_eq (a0 : Nat) (a2 : Int32) (h : mx_H) : g66_46 a0 a2 h = (h.2.1 (.inr (a0, 4)) (Int32.toNatClampNeg a2) : Int32) := by
  unfold g66_46
  rw [ml_wh_eq]
  simp only [b66, ml_go_ite, ml_go_l, ml_go_r, ml_go_opt, ml_go_let, ml_go_h, ml_go_val]
  try rfl
theorem g66_53_eq (a0 : Nat) (a2 : Int32) (h : mx_H) : g66_53 a0 a2 h = (h.2.1 (.inr (a0, 1)) (Int32.toNatClampNeg a2) : Int32) := by
  unfold g66_53
  rw [ml_wh_eq]
  simp only [b66, ml_go_ite, ml_go_l, ml_go_r, ml_go_opt, ml_go_let, ml_go_h, ml_go_val]
  try rfl
theorem g66_60_eq (a0 : Nat) (a2 : Int32) (h : mx_H) : g66_60 a0 a2 h = ((f65 (h.2.1 (.inr (a0, 7)) (Int32.toNatClampNeg a2)) (h.2.1 (.inr (a0, 8)) (Int32.toNatClampNeg a2))) : Int32) := by
  unfold g66_60
  rw [ml_wh_eq]
  simp only [b66, ml_go_ite, ml_go_l, ml_go_r, ml_go_opt, ml_go_let, ml_go_h, ml_go_val]
  try rfl
noncomputable def f66 (t0 : Nat) (a1 : Int32) (a2 : Int32) (h : mx_H) : Int32 := x_box (if a1 = 0 then (g66_32 t0 a2 h) else (if a1 = 1 then (g66_39 t0 a2 h) else (if a1 = 2 then (g66_46 t0 a2 h) else (if a1 = 3 then (g66_53 t0 a2 h) else (g66_60 t0 a2 h)))))
theorem f66_eq (t0 : Nat) (a1 : Int32) (a2 : Int32) (h : mx_H) : f66 t0 a1 a2 h = (if a1 = 0 then (g66_32 t0 a2 h) else (if a1 = 1 then (g66_39 t0 a2 h) else (if a1 = 2 then (g66_46 t0 a2 h) else (if a1 = 3 then (g66_53 t0 a2 h) else (g66_60 t0 a2 h))))) := x_box_eq _
theorem xw66 {E : mx_Ev} {Q : Option mx_V → mx_H → Prop} : ∀ n : Nat, (∀ (a0 : Nat) (a2 : Int32) (h : mx_H), (xK_ip Q h) (g66_32 a0 a2 h) → mx_L E n 66 32 [(0, .inr (.inr (a0, 0))), (2, .inl (.int a2))] [] h Q) ∧ (∀ (a0 : Nat) (a2 : Int32) (h : mx_H), (xK_ip Q h) (g66_39 a0 a2 h) → mx_L E n 66 39 [(0, .inr (.inr (a0, 0))), (2, .inl (.int a2))] [] h Q) ∧ (∀ (a0 : Nat) (a2 : Int32) (h : mx_H), (xK_ip Q h) (g66_46 a0 a2 h) → mx_L E n 66 46 [(0, .inr (.inr (a0, 0))), (2, .inl (.int a2))] [] h Q) ∧ (∀ (a0 : Nat) (a2 : Int32) (h : mx_H), (xK_ip Q h) (g66_53 a0 a2 h) → mx_L E n 66 53 [(0, .inr (.inr (a0, 0))), (2, .inl (.int a2))] [] h Q) ∧ (∀ (a0 : Nat) (a2 : Int32) (h : mx_H), (xK_ip Q h) (g66_60 a0 a2 h) → mx_L E n 66 60 [(0, .inr (.inr (a0, 0))), (2, .inl (.int a2))] [] h Q)
  | 0 => ⟨fun _ _ _ _ => mx_L.zero, fun _ _ _ _ => mx_L.zero, fun _ _ _ _ => mx_L.zero, fun _ _ _ _ => mx_L.zero, fun _ _ _ _ => mx_L.zero⟩
  | n + 1 => ⟨fun a0 a2 h hK => sl66_32 (x_use (x_eq (K := (xK_ip Q h)) (g66_32_eq a0 a2 h) hK) (fun hK => (fun _ => hK))), fun a0 a2 h hK => sl66_39 (x_use (x_eq (K := (xK_ip Q h)) (g66_39_eq a0 a2 h) hK) (fun hK => (fun _ => hK))), fun a0 a2 h hK => sl66_46 (x_use (x_eq (K := (xK_ip Q h)) (g66_46_eq a0 a2 h) hK) (fun hK => (fun _ => hK))), fun a0 a2 h hK => sl66_53 (x_use (x_eq (K := (xK_ip Q h)) (g66_53_eq a0 a2 h) hK) (fun hK => (fun _ => hK))), fun a0 a2 h hK => sl66_60 (x_use (x_eq (K := (xK_ip Q h)) (g66_60_eq a0 a2 h) hK) (fun hK => (fun _ => (fun _ => (x65 (xh_i hK))))))⟩
theorem x66 {E : mx_Ev} {n : Nat} {h : mx_H} {Q : Option mx_V → mx_H → Prop} {t0 : Nat} {a1 : Int32} {a2 : Int32} (hK : (xK_ip Q h) (f66 t0 a1 a2 h)) : mx_M E n 66 [.inr (.inr (t0, 0)), .inl (.int a1), .inl (.int a2)] h Q := by
  cases n with
  | zero => exact mx_L.zero
  | succ n => exact sl66_0 (x_use (x_eq (K := (xK_ip Q h)) (f66_eq t0 a1 a2 h) hK) (fun hK => (fun tgt q => by
          rcases q with ⟨q, e⟩ | ⟨q1, q2, o, qo, e⟩
          · have e2 : tgt = 60 := by omega
            subst e2
            replace hK := x_neg (fun e => by rw [e] at q; revert q; decide) hK
            replace hK := x_neg (fun e => by rw [e] at q; revert q; decide) hK
            replace hK := x_neg (fun e => by rw [e] at q; revert q; decide) hK
            replace hK := x_neg (fun e => by rw [e] at q; revert q; decide) hK
            exact mx_L.sub (lv' := mx_nrm [0, 2] [(0, .inr (.inr (t0, 0))), (1, .inl (.int a1)), (2, .inl (.int a2))]) mx_nrm_mem ((xw66 n).2.2.2.2 _ _ _ hK)
          · have hv : Int32.toInt a1 = 0 ∨ Int32.toInt a1 = 1 ∨ Int32.toInt a1 = 2 ∨ Int32.toInt a1 = 3 := by omega
            rcases hv with hv | hv | hv | hv
            · rw [hv] at qo
              have eo : o = 31 := (Option.some.inj (qo.symm.trans (rfl : _ = some (31 : Int))))
              have e2 : tgt = 32 := by omega
              subst e2
              replace hK := x_pos (Int32.toInt_inj.mp (hv.trans rfl)) hK
              exact mx_L.sub (lv' := mx_nrm [0, 2] [(0, .inr (.inr (t0, 0))), (1, .inl (.int a1)), (2, .inl (.int a2))]) mx_nrm_mem ((xw66 n).1 _ _ _ hK)
            · rw [hv] at qo
              have eo : o = 38 := (Option.some.inj (qo.symm.trans (rfl : _ = some (38 : Int))))
              have e2 : tgt = 39 := by omega
              subst e2
              replace hK := x_neg (fun e => by rw [e] at hv; revert hv; decide) hK
              replace hK := x_pos (Int32.toInt_inj.mp (hv.trans rfl)) hK
              exact mx_L.sub (lv' := mx_nrm [0, 2] [(0, .inr (.inr (t0, 0))), (1, .inl (.int a1)), (2, .inl (.int a2))]) mx_nrm_mem ((xw66 n).2.1 _ _ _ hK)
            · rw [hv] at qo
              have eo : o = 45 := (Option.some.inj (qo.symm.trans (rfl : _ = some (45 : Int))))
              have e2 : tgt = 46 := by omega
              subst e2
              replace hK := x_neg (fun e => by rw [e] at hv; revert hv; decide) hK
              replace hK := x_neg (fun e => by rw [e] at hv; revert hv; decide) hK
              replace hK := x_pos (Int32.toInt_inj.mp (hv.trans rfl)) hK
              exact mx_L.sub (lv' := mx_nrm [0, 2] [(0, .inr (.inr (t0, 0))), (1, .inl (.int a1)), (2, .inl (.int a2))]) mx_nrm_mem ((xw66 n).2.2.1 _ _ _ hK)
            · rw [hv] at qo
              have eo : o = 52 := (Option.some.inj (qo.symm.trans (rfl : _ = some (52 : Int))))
              have e2 : tgt = 53 := by omega
              subst e2
              replace hK := x_neg (fun e => by rw [e] at hv; revert hv; decide) hK
              replace hK := x_neg (fun e => by rw [e] at hv; revert hv; decide) hK
              replace hK := x_neg (fun e => by rw [e] at hv; revert hv; decide) hK
              replace hK := x_pos (Int32.toInt_inj.mp (hv.trans rfl)) hK
              exact mx_L.sub (lv' := mx_nrm [0, 2] [(0, .inr (.inr (t0, 0))), (1, .inl (.int a1)), (2, .inl (.int a2))]) mx_nrm_mem ((xw66 n).2.2.2.1 _ _ _ hK))))
noncomputable def b68 : ((Nat × Int32 × Int32 × mx_H) ⊕ (Nat × Int32 × Int32 × mx_H)) → ((Nat × Int32 × Int32 × mx_H) ⊕ (Nat × Int32 × Int32 × mx_H)) ⊕ (Int32)
  | (.inl (a0, a2, a3, h)) => (if (h.2.1 (.inr (a0, 0)) 0) ≤ a3 then (Sum.inl (.inr (a0, a2, 0, h))) else (Sum.inl (.inl (a0, ((((((((a2 * 31) + (h.2.1 (.inr (a0, 1)) (Int32.toNatClampNeg a3))) * 31) + (h.2.1 (.inr (a0, 2)) (Int32.toNatClampNeg a3))) * 31) + (h.2.1 (.inr (a0, 3)) (Int32.toNatClampNeg a3))) * 31) + (h.2.1 (.inr (a0, 4)) (Int32.toNatClampNeg a3))), (a3 + 1), h))))
  | (.inr (a0, a2, a3, h)) => (if (h.2.1 (.inr (a0, 0)) 6) ≤ a3 then (Sum.inr (a2 : Int32)) else (Sum.inl (.inr (a0, ((((((((a2 * 31) + (h.2.1 (.inr (a0, 5)) (Int32.toNatClampNeg a3))) * 31) + (h.2.1 (.inr (a0, 6)) (Int32.toNatClampNeg a3))) * 31) + (h.2.1 (.inr (a0, 7)) (Int32.toNatClampNeg a3))) * 31) + (h.2.1 (.inr (a0, 8)) (Int32.toNatClampNeg a3))), (a3 + 1), h))))
noncomputable def g68_4 (a0 : Nat) (a2 : Int32) (a3 : Int32) (h : mx_H) : Int32 := ml_wh b68 (.inl (a0, a2, a3, h))
noncomputable def g68_62 (a0 : Nat) (a2 : Int32) (a3 : Int32) (h : mx_H) : Int32 := ml_wh b68 (.inr (a0, a2, a3, h))
theorem g68_4_eq (a0 : Nat) (a2 : Int32) (a3 : Int32) (h : mx_H) : g68_4 a0 a2 a3 h = (if (h.2.1 (.inr (a0, 0)) 0) ≤ a3 then (g68_62 a0 a2 0 h) else (g68_4 a0 ((((((((a2 * 31) + (h.2.1 (.inr (a0, 1)) (Int32.toNatClampNeg a3))) * 31) + (h.2.1 (.inr (a0, 2)) (Int32.toNatClampNeg a3))) * 31) + (h.2.1 (.inr (a0, 3)) (Int32.toNatClampNeg a3))) * 31) + (h.2.1 (.inr (a0, 4)) (Int32.toNatClampNeg a3))) (a3 + 1) h)) := by
  unfold g68_4
  rw [ml_wh_eq]
  simp only [b68, ml_go_ite, ml_go_l, ml_go_r, ml_go_opt, ml_go_let, ml_go_h, ml_go_val]
  try rfl
theorem g68_62_eq (a0 : Nat) (a2 : Int32) (a3 : Int32) (h : mx_H) : g68_62 a0 a2 a3 h = (if (h.2.1 (.inr (a0, 0)) 6) ≤ a3 then (a2 : Int32) else (g68_62 a0 ((((((((a2 * 31) + (h.2.1 (.inr (a0, 5)) (Int32.toNatClampNeg a3))) * 31) + (h.2.1 (.inr (a0, 6)) (Int32.toNatClampNeg a3))) * 31) + (h.2.1 (.inr (a0, 7)) (Int32.toNatClampNeg a3))) * 31) + (h.2.1 (.inr (a0, 8)) (Int32.toNatClampNeg a3))) (a3 + 1) h)) := by
  unfold g68_62
  rw [ml_wh_eq]
  simp only [b68, ml_go_ite, ml_go_l, ml_go_r, ml_go_opt, ml_go_let, ml_go_h, ml_go_val]
  try rfl
noncomputable def f68 (t0 : Nat) (a1 : Int32) (h : mx_H) : Int32 := x_box (g68_4 t0 a1 0 h)
theorem f68_eq (t0 : Nat) (a1 : Int32) (h : mx_H) : f68 t0 a1 h = (g68_4 t0 a1 0 h) := x_box_eq _
theorem xw68 {E : mx_Ev} {Q : Option mx_V → mx_H → Prop} : ∀ n : Nat, (∀ (a0 : Nat) (a2 : Int32) (a3 : Int32) (h : mx_H), (xK_ip Q h) (g68_4 a0 a2 a3 h) → mx_L E n 68 4 [(0, .inr (.inr (a0, 0))), (2, .inl (.int a2)), (3, .inl (.int a3))] [] h Q) ∧ (∀ (a0 : Nat) (a2 : Int32) (a3 : Int32) (h : mx_H), (xK_ip Q h) (g68_62 a0 a2 a3 h) → mx_L E n 68 62 [(0, .inr (.inr (a0, 0))), (2, .inl (.int a2)), (3, .inl (.int a3))] [] h Q)
  | 0 => ⟨fun _ _ _ _ _ => mx_L.zero, fun _ _ _ _ _ => mx_L.zero⟩
  | n + 1 => ⟨fun a0 a2 a3 h hK => sl68_4 (x_use (x_eq (K := (xK_ip Q h)) (g68_4_eq a0 a2 a3 h) hK) (fun hK => (x_ite hK (fun hK => ((xw68 n).2 _ _ _ _ hK)) (fun hK => (fun _ => (fun _ => (fun _ => (fun _ => ((xw68 n).1 _ _ _ _ hK))))))))), fun a0 a2 a3 h hK => sl68_62 (x_use (x_eq (K := (xK_ip Q h)) (g68_62_eq a0 a2 a3 h) hK) (fun hK => (x_ite hK (fun hK => hK) (fun hK => (fun _ => (fun _ => (fun _ => (fun _ => ((xw68 n).2 _ _ _ _ hK)))))))))⟩
theorem x68 {E : mx_Ev} {n : Nat} {h : mx_H} {Q : Option mx_V → mx_H → Prop} {t0 : Nat} {a1 : Int32} (hK : (xK_ip Q h) (f68 t0 a1 h)) : mx_M E n 68 [.inr (.inr (t0, 0)), .inl (.int a1)] h Q := by
  cases n with
  | zero => exact mx_L.zero
  | succ n => exact sl68_0 (x_use (x_eq (K := (xK_ip Q h)) (f68_eq t0 a1 h) hK) (fun hK => ((xw68 n).1 _ _ _ _ hK)))
noncomputable def f70 (a1 : Int32) (a2 : Int32) (h : mx_H) : mx_H := x_box (if 0 ≤ a2 then (mx_uI (mx_uI (mx_uI h (.inl 95) (Int32.toNatClampNeg a1) (-1)) (.inl 97) (Int32.toNatClampNeg a1) (if a2 < 0 then 0 else a2)) (.inl 96) (Int32.toNatClampNeg a1) 0) else (mx_uI (mx_uI (mx_uI h (.inl 95) (Int32.toNatClampNeg a1) (-2)) (.inl 97) (Int32.toNatClampNeg a1) (if a2 < 0 then 0 else a2)) (.inl 96) (Int32.toNatClampNeg a1) 0))
theorem f70_eq (a1 : Int32) (a2 : Int32) (h : mx_H) : f70 a1 a2 h = (if 0 ≤ a2 then (mx_uI (mx_uI (mx_uI h (.inl 95) (Int32.toNatClampNeg a1) (-1)) (.inl 97) (Int32.toNatClampNeg a1) (if a2 < 0 then 0 else a2)) (.inl 96) (Int32.toNatClampNeg a1) 0) else (mx_uI (mx_uI (mx_uI h (.inl 95) (Int32.toNatClampNeg a1) (-2)) (.inl 97) (Int32.toNatClampNeg a1) (if a2 < 0 then 0 else a2)) (.inl 96) (Int32.toNatClampNeg a1) 0)) := x_box_eq _
theorem x70 {E : mx_Ev} {n : Nat} {h : mx_H} {Q : Option mx_V → mx_H → Prop} {a1 : Int32} {a2 : Int32} (hK : (xK_v Q) (f70 a1 a2 h)) : mx_M E n 70 [.inr (.inl 94), .inl (.int a1), .inl (.int a2)] h Q := by
  cases n with
  | zero => exact mx_L.zero
  | succ n => exact sl70_0 (x_use (x_eq (K := (xK_v Q)) (f70_eq a1 a2 h) hK) (fun hK => (x_ite hK (fun hK => (fun _ => (fun _ => (fun _ => hK)))) (fun hK => (fun _ => (fun _ => (fun _ => hK)))))))
noncomputable def b316 : ((mx_A × Int64 × Int32 × Int32 × mx_H)) → ((mx_A × Int64 × Int32 × Int32 × mx_H)) ⊕ (mx_H)
  | (a0, a1, a3, a4, h) => (if a4 ≤ a3 then (Sum.inr h) else (Sum.inl (a0, a1, (a3 + 1), a4, mx_uL h a0 (Int32.toNatClampNeg a3) a1)))
noncomputable def g316_6 (a0 : mx_A) (a1 : Int64) (a3 : Int32) (a4 : Int32) (h : mx_H) : mx_H := ml_wh b316 (a0, a1, a3, a4, h)
theorem g316_6_eq (a0 : mx_A) (a1 : Int64) (a3 : Int32) (a4 : Int32) (h : mx_H) : g316_6 a0 a1 a3 a4 h = (if a4 ≤ a3 then h else (g316_6 a0 a1 (a3 + 1) a4 (mx_uL h a0 (Int32.toNatClampNeg a3) a1))) := by
  unfold g316_6
  rw [ml_wh_eq]
  simp only [b316, ml_go_ite, ml_go_l, ml_go_r, ml_go_opt, ml_go_let, ml_go_h, ml_go_val]
  try rfl
noncomputable def f316 (a0 : mx_A) (a1 : Int64) (h : mx_H) : mx_H := x_box (g316_6 a0 a1 0 (Int32.ofNat (mx_lo a0).2) h)
theorem f316_eq (a0 : mx_A) (a1 : Int64) (h : mx_H) : f316 a0 a1 h = (g316_6 a0 a1 0 (Int32.ofNat (mx_lo a0).2) h) := x_box_eq _
theorem xw316 {E : mx_Ev} {Q : Option mx_V → mx_H → Prop} : ∀ n : Nat, (∀ (a0 : mx_A) (a1 : Int64) (a3 : Int32) (a4 : Int32) (h : mx_H), (xK_v Q) (g316_6 a0 a1 a3 a4 h) → mx_L E n 316 6 [(0, .inr a0), (1, .inl (.long a1)), (3, .inl (.int a3)), (4, .inl (.int a4))] [] h Q)
  | 0 => fun _ _ _ _ _ _ => mx_L.zero
  | n + 1 => fun a0 a1 a3 a4 h hK => sl316_6 (x_use (x_eq (K := (xK_v Q)) (g316_6_eq a0 a1 a3 a4 h) hK) (fun hK => (x_ite hK (fun hK => hK) (fun hK => (x_mli (fun _ => ((xw316 n) _ _ _ _ _ hK)))))))
theorem x316 {E : mx_Ev} {n : Nat} {h : mx_H} {Q : Option mx_V → mx_H → Prop} {a0 : mx_A} {a1 : Int64} (hK : (xK_v Q) (f316 a0 a1 h)) : mx_M E n 316 [.inr a0, .inl (.long a1)] h Q := by
  cases n with
  | zero => exact mx_L.zero
  | succ n => exact sl316_0 (x_use (x_eq (K := (xK_v Q)) (f316_eq a0 a1 h) hK) (fun hK => ((xw316 n) _ _ _ _ _ hK)))
noncomputable def f71 (a1 : Int32) (a2 : Int32) (a3 : Int32) (h : mx_H) : mx_H := x_box (x_h (f316 (.inr ((Int32.toNatClampNeg a1), 20)) 0 (mx_uI (mx_uI h (.inl 95) (Int32.toNatClampNeg a1) a2) (.inl 96) (Int32.toNatClampNeg a1) a3)) (fun h2 => h2))
theorem f71_eq (a1 : Int32) (a2 : Int32) (a3 : Int32) (h : mx_H) : f71 a1 a2 a3 h = (x_h (f316 (.inr ((Int32.toNatClampNeg a1), 20)) 0 (mx_uI (mx_uI h (.inl 95) (Int32.toNatClampNeg a1) a2) (.inl 96) (Int32.toNatClampNeg a1) a3)) (fun h2 => h2)) := x_box_eq _
theorem x71 {E : mx_Ev} {n : Nat} {h : mx_H} {Q : Option mx_V → mx_H → Prop} {a1 : Int32} {a2 : Int32} {a3 : Int32} (hK : (xK_v Q) (f71 a1 a2 a3 h)) : mx_M E n 71 [.inr (.inl 94), .inl (.int a1), .inl (.int a2), .inl (.int a3)] h Q := by
  cases n with
  | zero => exact mx_L.zero
  | succ n => exact sl71_0 (x_use (x_eq (K := (xK_v Q)) (f71_eq a1 a2 a3 h) hK) (fun hK => (fun _ => (fun _ => (fun _ => (x316 (xh_n (x_hk hK (fun hK => hK)))))))))
noncomputable def f72 (a1 : Int32) (h : mx_H) : Int32 := x_box (if (h.2.1 (.inl 95) (Int32.toNatClampNeg a1)) ≠ (-2) then (if (h.2.1 (.inl 95) (Int32.toNatClampNeg a1)) ≠ (-1) then (0 : Int32) else ((-12) : Int32)) else ((-11) : Int32))
theorem f72_eq (a1 : Int32) (h : mx_H) : f72 a1 h = (if (h.2.1 (.inl 95) (Int32.toNatClampNeg a1)) ≠ (-2) then (if (h.2.1 (.inl 95) (Int32.toNatClampNeg a1)) ≠ (-1) then (0 : Int32) else ((-12) : Int32)) else ((-11) : Int32)) := x_box_eq _
theorem x72 {E : mx_Ev} {n : Nat} {h : mx_H} {Q : Option mx_V → mx_H → Prop} {a1 : Int32} (hK : (xK_ip Q h) (f72 a1 h)) : mx_M E n 72 [.inr (.inl 94), .inl (.int a1)] h Q := by
  cases n with
  | zero => exact mx_L.zero
  | succ n => exact sl72_0 (x_use (x_eq (K := (xK_ip Q h)) (f72_eq a1 h) hK) (fun hK => (fun _ => (x_ite hK (fun hK => (fun _ => (x_ite hK (fun hK => hK) (fun hK => hK)))) (fun hK => hK)))))
noncomputable def f73 (a1 : Int32) (h : mx_H) : Int32 := x_box (if (h.2.1 (.inl 95) (Int32.toNatClampNeg a1)) ≠ (-2) then (if (f157 (h.2.1 (.inl 95) (Int32.toNatClampNeg a1)) 0 2) = 0 then ((-12) : Int32) else (0 : Int32)) else ((-11) : Int32))
theorem f73_eq (a1 : Int32) (h : mx_H) : f73 a1 h = (if (h.2.1 (.inl 95) (Int32.toNatClampNeg a1)) ≠ (-2) then (if (f157 (h.2.1 (.inl 95) (Int32.toNatClampNeg a1)) 0 2) = 0 then ((-12) : Int32) else (0 : Int32)) else ((-11) : Int32)) := x_box_eq _
theorem x73 {E : mx_Ev} {n : Nat} {h : mx_H} {Q : Option mx_V → mx_H → Prop} {a1 : Int32} (hK : (xK_ip Q h) (f73 a1 h)) : mx_M E n 73 [.inr (.inl 94), .inl (.int a1)] h Q := by
  cases n with
  | zero => exact mx_L.zero
  | succ n => exact sl73_0 (x_use (x_eq (K := (xK_ip Q h)) (f73_eq a1 h) hK) (fun hK => (fun _ => (x_ite hK (fun hK => (fun _ => (x157 (xh_i (x_ite hK (fun hK => hK) (fun hK => hK)))))) (fun hK => hK)))))
noncomputable def f74 (a1 : Int32) (a2 : Int32) (h : mx_H) : Int32 := x_box (if a2 < 0 then (0 : Int32) else (if (h.2.1 (.inl 96) (Int32.toNatClampNeg a1)) ≤ a2 then (0 : Int32) else (1 : Int32)))
theorem f74_eq (a1 : Int32) (a2 : Int32) (h : mx_H) : f74 a1 a2 h = (if a2 < 0 then (0 : Int32) else (if (h.2.1 (.inl 96) (Int32.toNatClampNeg a1)) ≤ a2 then (0 : Int32) else (1 : Int32))) := x_box_eq _
theorem x74 {E : mx_Ev} {n : Nat} {h : mx_H} {Q : Option mx_V → mx_H → Prop} {a1 : Int32} {a2 : Int32} (hK : (xK_ip Q h) (f74 a1 a2 h)) : mx_M E n 74 [.inr (.inl 94), .inl (.int a1), .inl (.int a2)] h Q := by
  cases n with
  | zero => exact mx_L.zero
  | succ n => exact sl74_0 (x_use (x_eq (K := (xK_ip Q h)) (f74_eq a1 a2 h) hK) (fun hK => (x_ite hK (fun hK => (fun _ => hK)) (fun hK => (fun _ => (x_ite hK (fun hK => (fun _ => hK)) (fun hK => (fun _ => hK))))))))
noncomputable def f75 (a1 : Int32) (a2 : Int32) (a3 : Int32) (h : mx_H) : Int32 := x_box (if a2 < 0 then (0 : Int32) else (if a3 < 0 then (0 : Int32) else (if (h.2.1 (.inl 96) (Int32.toNatClampNeg a1)) < a3 then (0 : Int32) else (if ((h.2.1 (.inl 96) (Int32.toNatClampNeg a1)) - a3) < a2 then (0 : Int32) else (1 : Int32)))))
theorem f75_eq (a1 : Int32) (a2 : Int32) (a3 : Int32) (h : mx_H) : f75 a1 a2 a3 h = (if a2 < 0 then (0 : Int32) else (if a3 < 0 then (0 : Int32) else (if (h.2.1 (.inl 96) (Int32.toNatClampNeg a1)) < a3 then (0 : Int32) else (if ((h.2.1 (.inl 96) (Int32.toNatClampNeg a1)) - a3) < a2 then (0 : Int32) else (1 : Int32))))) := x_box_eq _
theorem x75 {E : mx_Ev} {n : Nat} {h : mx_H} {Q : Option mx_V → mx_H → Prop} {a1 : Int32} {a2 : Int32} {a3 : Int32} (hK : (xK_ip Q h) (f75 a1 a2 a3 h)) : mx_M E n 75 [.inr (.inl 94), .inl (.int a1), .inl (.int a2), .inl (.int a3)] h Q := by
  cases n with
  | zero => exact mx_L.zero
  | succ n => exact sl75_0 (x_use (x_eq (K := (xK_ip Q h)) (f75_eq a1 a2 a3 h) hK) (fun hK => (x_ite hK (fun hK => (fun _ => hK)) (fun hK => (x_ite hK (fun hK => (fun _ => hK)) (fun hK => (fun _ => (x_ite hK (fun hK => (fun _ => hK)) (fun hK => (fun _ => (x_ite hK (fun hK => (fun _ => hK)) (fun hK => (fun _ => hK)))))))))))))
noncomputable def b77 : ((Int64) ⊕ (Int64) ⊕ (Int64) ⊕ (Int64) ⊕ (Int64)) → ((Int64) ⊕ (Int64) ⊕ (Int64) ⊕ (Int64) ⊕ (Int64)) ⊕ (Int64)
  | (.inl a1) => (Sum.inr (Int32.toInt64 ((Int32.toInt8 (Int64.toInt32 a1)).toInt32) : Int64))
  | (.inr (.inl a1)) => (Sum.inr (Int32.toInt64 ((Int32.toInt16 (Int64.toInt32 a1)).toInt32) : Int64))
  | (.inr (.inr (.inl a1))) => (Sum.inr (Int32.toInt64 (Int64.toInt32 a1) : Int64))
  | (.inr (.inr (.inr (.inl a1)))) => (Sum.inr (a1 : Int64))
  | (.inr (.inr (.inr (.inr a1)))) => (if (lg_cmp a1 0) = 0 then (Sum.inr (0 : Int64)) else (Sum.inr (1 : Int64)))
noncomputable def g77_32 (a1 : Int64) : Int64 := ml_wh b77 (.inl a1)
noncomputable def g77_37 (a1 : Int64) : Int64 := ml_wh b77 (.inr (.inl a1))
noncomputable def g77_42 (a1 : Int64) : Int64 := ml_wh b77 (.inr (.inr (.inl a1)))
noncomputable def g77_46 (a1 : Int64) : Int64 := ml_wh b77 (.inr (.inr (.inr (.inl a1))))
noncomputable def g77_48 (a1 : Int64) : Int64 := ml_wh b77 (.inr (.inr (.inr (.inr a1))))
theorem g77_32_eq (a1 : Int64) : g77_32 a1 = (Int32.toInt64 ((Int32.toInt8 (Int64.toInt32 a1)).toInt32) : Int64) := by
  unfold g77_32
  rw [ml_wh_eq]
  simp only [b77, ml_go_ite, ml_go_l, ml_go_r, ml_go_opt, ml_go_let, ml_go_h, ml_go_val]
  try rfl
theorem g77_37_eq (a1 : Int64) : g77_37 a1 = (Int32.toInt64 ((Int32.toInt16 (Int64.toInt32 a1)).toInt32) : Int64) := by
  unfold g77_37
  rw [ml_wh_eq]
  simp only [b77, ml_go_ite, ml_go_l, ml_go_r, ml_go_opt, ml_go_let, ml_go_h, ml_go_val]
  try rfl
theorem g77_42_eq (a1 : Int64) : g77_42 a1 = (Int32.toInt64 (Int64.toInt32 a1) : Int64) := by
  unfold g77_42
  rw [ml_wh_eq]
  simp only [b77, ml_go_ite, ml_go_l, ml_go_r, ml_go_opt, ml_go_let, ml_go_h, ml_go_val]
  try rfl
theorem g77_46_eq (a1 : Int64) : g77_46 a1 = (a1 : Int64) := by
  unfold g77_46
  rw [ml_wh_eq]
  simp only [b77, ml_go_ite, ml_go_l, ml_go_r, ml_go_opt, ml_go_let, ml_go_h, ml_go_val]
  try rfl
theorem g77_48_eq (a1 : Int64) : g77_48 a1 = (if (lg_cmp a1 0) = 0 then (0 : Int64) else (1 : Int64)) := by
  unfold g77_48
  rw [ml_wh_eq]
  simp only [b77, ml_go_ite, ml_go_l, ml_go_r, ml_go_opt, ml_go_let, ml_go_h, ml_go_val]
  try rfl
noncomputable def f77 (a0 : Int32) (a1 : Int64) : Int64 := x_box (if a0 = 0 then (g77_32 a1) else (if a0 = 1 then (g77_37 a1) else (if a0 = 2 then (g77_42 a1) else (if a0 = 3 then (g77_46 a1) else (g77_48 a1)))))
theorem f77_eq (a0 : Int32) (a1 : Int64) : f77 a0 a1 = (if a0 = 0 then (g77_32 a1) else (if a0 = 1 then (g77_37 a1) else (if a0 = 2 then (g77_42 a1) else (if a0 = 3 then (g77_46 a1) else (g77_48 a1))))) := x_box_eq _
theorem xw77 {E : mx_Ev} {Q : Option mx_V → mx_H → Prop} : ∀ n : Nat, (∀ (a1 : Int64) (h : mx_H), (xK_lp Q h) (g77_32 a1) → mx_L E n 77 32 [(1, .inl (.long a1))] [] h Q) ∧ (∀ (a1 : Int64) (h : mx_H), (xK_lp Q h) (g77_37 a1) → mx_L E n 77 37 [(1, .inl (.long a1))] [] h Q) ∧ (∀ (a1 : Int64) (h : mx_H), (xK_lp Q h) (g77_42 a1) → mx_L E n 77 42 [(1, .inl (.long a1))] [] h Q) ∧ (∀ (a1 : Int64) (h : mx_H), (xK_lp Q h) (g77_46 a1) → mx_L E n 77 46 [(1, .inl (.long a1))] [] h Q) ∧ (∀ (a1 : Int64) (h : mx_H), (xK_lp Q h) (g77_48 a1) → mx_L E n 77 48 [(1, .inl (.long a1))] [] h Q)
  | 0 => ⟨fun _ _ _ => mx_L.zero, fun _ _ _ => mx_L.zero, fun _ _ _ => mx_L.zero, fun _ _ _ => mx_L.zero, fun _ _ _ => mx_L.zero⟩
  | n + 1 => ⟨fun a1 h hK => sl77_32 (x_use (x_eq (K := (xK_lp Q h)) (g77_32_eq a1) hK) (fun hK => hK)), fun a1 h hK => sl77_37 (x_use (x_eq (K := (xK_lp Q h)) (g77_37_eq a1) hK) (fun hK => hK)), fun a1 h hK => sl77_42 (x_use (x_eq (K := (xK_lp Q h)) (g77_42_eq a1) hK) (fun hK => hK)), fun a1 h hK => sl77_46 (x_use (x_eq (K := (xK_lp Q h)) (g77_46_eq a1) hK) (fun hK => hK)), fun a1 h hK => sl77_48 (x_use (x_eq (K := (xK_lp Q h)) (g77_48_eq a1) hK) (fun hK => (x_ite hK (fun hK => hK) (fun hK => hK))))⟩
theorem x77 {E : mx_Ev} {n : Nat} {h : mx_H} {Q : Option mx_V → mx_H → Prop} {a0 : Int32} {a1 : Int64} (hK : (xK_lp Q h) (f77 a0 a1)) : mx_M E n 77 [.inl (.int a0), .inl (.long a1)] h Q := by
  cases n with
  | zero => exact mx_L.zero
  | succ n => exact sl77_0 (x_use (x_eq (K := (xK_lp Q h)) (f77_eq a0 a1) hK) (fun hK => (fun tgt q => by
          rcases q with ⟨q, e⟩ | ⟨q1, q2, o, qo, e⟩
          · have e2 : tgt = 48 := by omega
            subst e2
            replace hK := x_neg (fun e => by rw [e] at q; revert q; decide) hK
            replace hK := x_neg (fun e => by rw [e] at q; revert q; decide) hK
            replace hK := x_neg (fun e => by rw [e] at q; revert q; decide) hK
            replace hK := x_neg (fun e => by rw [e] at q; revert q; decide) hK
            exact mx_L.sub (lv' := mx_nrm [1] [(0, .inl (.int a0)), (1, .inl (.long a1))]) mx_nrm_mem ((xw77 n).2.2.2.2 _ _ hK)
          · have hv : Int32.toInt a0 = 0 ∨ Int32.toInt a0 = 1 ∨ Int32.toInt a0 = 2 ∨ Int32.toInt a0 = 3 := by omega
            rcases hv with hv | hv | hv | hv
            · rw [hv] at qo
              have eo : o = 31 := (Option.some.inj (qo.symm.trans (rfl : _ = some (31 : Int))))
              have e2 : tgt = 32 := by omega
              subst e2
              replace hK := x_pos (Int32.toInt_inj.mp (hv.trans rfl)) hK
              exact mx_L.sub (lv' := mx_nrm [1] [(0, .inl (.int a0)), (1, .inl (.long a1))]) mx_nrm_mem ((xw77 n).1 _ _ hK)
            · rw [hv] at qo
              have eo : o = 36 := (Option.some.inj (qo.symm.trans (rfl : _ = some (36 : Int))))
              have e2 : tgt = 37 := by omega
              subst e2
              replace hK := x_neg (fun e => by rw [e] at hv; revert hv; decide) hK
              replace hK := x_pos (Int32.toInt_inj.mp (hv.trans rfl)) hK
              exact mx_L.sub (lv' := mx_nrm [1] [(0, .inl (.int a0)), (1, .inl (.long a1))]) mx_nrm_mem ((xw77 n).2.1 _ _ hK)
            · rw [hv] at qo
              have eo : o = 41 := (Option.some.inj (qo.symm.trans (rfl : _ = some (41 : Int))))
              have e2 : tgt = 42 := by omega
              subst e2
              replace hK := x_neg (fun e => by rw [e] at hv; revert hv; decide) hK
              replace hK := x_neg (fun e => by rw [e] at hv; revert hv; decide) hK
              replace hK := x_pos (Int32.toInt_inj.mp (hv.trans rfl)) hK
              exact mx_L.sub (lv' := mx_nrm [1] [(0, .inl (.int a0)), (1, .inl (.long a1))]) mx_nrm_mem ((xw77 n).2.2.1 _ _ hK)
            · rw [hv] at qo
              have eo : o = 45 := (Option.some.inj (qo.symm.trans (rfl : _ = some (45 : Int))))
              have e2 : tgt = 46 := by omega
              subst e2
              replace hK := x_neg (fun e => by rw [e] at hv; revert hv; decide) hK
              replace hK := x_neg (fun e => by rw [e] at hv; revert hv; decide) hK
              replace hK := x_neg (fun e => by rw [e] at hv; revert hv; decide) hK
              replace hK := x_pos (Int32.toInt_inj.mp (hv.trans rfl)) hK
              exact mx_L.sub (lv' := mx_nrm [1] [(0, .inl (.int a0)), (1, .inl (.long a1))]) mx_nrm_mem ((xw77 n).2.2.2.1 _ _ hK))))
noncomputable def f76 (a1 : Int32) (a2 : Int32) (a3 : Int64) (h : mx_H) : mx_H := x_box (mx_uL h (.inr ((Int32.toNatClampNeg a1), 20)) (Int32.toNatClampNeg a2) (f77 (h.2.1 (.inl 95) (Int32.toNatClampNeg a1)) a3))
theorem f76_eq (a1 : Int32) (a2 : Int32) (a3 : Int64) (h : mx_H) : f76 a1 a2 a3 h = (mx_uL h (.inr ((Int32.toNatClampNeg a1), 20)) (Int32.toNatClampNeg a2) (f77 (h.2.1 (.inl 95) (Int32.toNatClampNeg a1)) a3)) := x_box_eq _
theorem x76 {E : mx_Ev} {n : Nat} {h : mx_H} {Q : Option mx_V → mx_H → Prop} {a1 : Int32} {a2 : Int32} {a3 : Int64} (hK : (xK_v Q) (f76 a1 a2 a3 h)) : mx_M E n 76 [.inr (.inl 94), .inl (.int a1), .inl (.int a2), .inl (.long a3)] h Q := by
  cases n with
  | zero => exact mx_L.zero
  | succ n => exact sl76_0 (x_use (x_eq (K := (xK_v Q)) (f76_eq a1 a2 a3 h) hK) (fun hK => (fun _ => (fun _ => (x77 (xh_l (fun _ => hK)))))))
noncomputable def f78 (a0 : Int32) : Int64 := x_box (if a0 ≠ 0 then (if a0 ≠ 1 then (2147483647 : Int64) else (32767 : Int64)) else (127 : Int64))
theorem f78_eq (a0 : Int32) : f78 a0 = (if a0 ≠ 0 then (if a0 ≠ 1 then (2147483647 : Int64) else (32767 : Int64)) else (127 : Int64)) := x_box_eq _
theorem x78 {E : mx_Ev} {n : Nat} {h : mx_H} {Q : Option mx_V → mx_H → Prop} {a0 : Int32} (hK : (xK_lp Q h) (f78 a0)) : mx_M E n 78 [.inl (.int a0)] h Q := by
  cases n with
  | zero => exact mx_L.zero
  | succ n => exact sl78_0 (x_use (x_eq (K := (xK_lp Q h)) (f78_eq a0) hK) (fun hK => (x_ite hK (fun hK => (x_ite hK (fun hK => hK) (fun hK => hK))) (fun hK => hK))))
noncomputable def f79 (a1 : Int32) (a2 : Int32) (a3 : Int32) (h : mx_H) : mx_H := x_box (x_val (f78 (h.2.1 (.inl 95) (Int32.toNatClampNeg a1))) (fun x3 => (mx_uL h (.inr ((Int32.toNatClampNeg a1), 20)) (Int32.toNatClampNeg a2) (if (if (Int32.toInt64 a3) < x3 then (Int32.toInt64 a3) else x3) < (-x3) then (-x3) else (if (Int32.toInt64 a3) < x3 then (Int32.toInt64 a3) else x3)))))
theorem f79_eq (a1 : Int32) (a2 : Int32) (a3 : Int32) (h : mx_H) : f79 a1 a2 a3 h = (x_val (f78 (h.2.1 (.inl 95) (Int32.toNatClampNeg a1))) (fun x3 => (mx_uL h (.inr ((Int32.toNatClampNeg a1), 20)) (Int32.toNatClampNeg a2) (if (if (Int32.toInt64 a3) < x3 then (Int32.toInt64 a3) else x3) < (-x3) then (-x3) else (if (Int32.toInt64 a3) < x3 then (Int32.toInt64 a3) else x3))))) := x_box_eq _
theorem x79 {E : mx_Ev} {n : Nat} {h : mx_H} {Q : Option mx_V → mx_H → Prop} {a1 : Int32} {a2 : Int32} {a3 : Int32} (hK : (xK_v Q) (f79 a1 a2 a3 h)) : mx_M E n 79 [.inr (.inl 94), .inl (.int a1), .inl (.int a2), .inl (.int a3)] h Q := by
  cases n with
  | zero => exact mx_L.zero
  | succ n => exact sl79_0 (x_use (x_eq (K := (xK_v Q)) (f79_eq a1 a2 a3 h) hK) (fun hK => (fun _ => (x78 (xh_l (x_valk hK (fun hK => (fun _ => (fun _ => hK)))))))))
noncomputable def f80 (a1 : Int32) (a2 : Int32) (h : mx_H) : Int64 := x_box (if 0 ≤ (lg_cmp (h.2.2.1 (.inr ((Int32.toNatClampNeg a1), 20)) (Int32.toNatClampNeg a2)) (-(f78 (h.2.1 (.inl 95) (Int32.toNatClampNeg a1))))) then (h.2.2.1 (.inr ((Int32.toNatClampNeg a1), 20)) (Int32.toNatClampNeg a2) : Int64) else (0 : Int64))
theorem f80_eq (a1 : Int32) (a2 : Int32) (h : mx_H) : f80 a1 a2 h = (if 0 ≤ (lg_cmp (h.2.2.1 (.inr ((Int32.toNatClampNeg a1), 20)) (Int32.toNatClampNeg a2)) (-(f78 (h.2.1 (.inl 95) (Int32.toNatClampNeg a1))))) then (h.2.2.1 (.inr ((Int32.toNatClampNeg a1), 20)) (Int32.toNatClampNeg a2) : Int64) else (0 : Int64)) := x_box_eq _
theorem x80 {E : mx_Ev} {n : Nat} {h : mx_H} {Q : Option mx_V → mx_H → Prop} {a1 : Int32} {a2 : Int32} (hK : (xK_lp Q h) (f80 a1 a2 h)) : mx_M E n 80 [.inr (.inl 94), .inl (.int a1), .inl (.int a2)] h Q := by
  cases n with
  | zero => exact mx_L.zero
  | succ n => exact sl80_0 (x_use (x_eq (K := (xK_lp Q h)) (f80_eq a1 a2 h) hK) (fun hK => (fun _ => (fun _ => (fun _ => (x78 (xh_l (x_ite hK (fun hK => hK) (fun hK => hK)))))))))
noncomputable def f308 (a0 : Int32) (a1 : Int32) : Int32 := x_box (if a1 ≤ a0 then (if a0 ≠ a1 then (1 : Int32) else (0 : Int32)) else ((-1) : Int32))
theorem f308_eq (a0 : Int32) (a1 : Int32) : f308 a0 a1 = (if a1 ≤ a0 then (if a0 ≠ a1 then (1 : Int32) else (0 : Int32)) else ((-1) : Int32)) := x_box_eq _
theorem x308 {E : mx_Ev} {n : Nat} {h : mx_H} {Q : Option mx_V → mx_H → Prop} {a0 : Int32} {a1 : Int32} (hK : (xK_ip Q h) (f308 a0 a1)) : mx_M E n 308 [.inl (.int a0), .inl (.int a1)] h Q := by
  cases n with
  | zero => exact mx_L.zero
  | succ n => exact sl308_0 (x_use (x_eq (K := (xK_ip Q h)) (f308_eq a0 a1) hK) (fun hK => (x_ite hK (fun hK => (x_ite hK (fun hK => hK) (fun hK => hK))) (fun hK => hK))))
noncomputable def f82 (a0 : Int32) (a1 : Int32) : Int32 := x_box ((f308 a1 (2 * (a0 - a0 / a1 * a1))) : Int32)
theorem f82_eq (a0 : Int32) (a1 : Int32) : f82 a0 a1 = ((f308 a1 (2 * (a0 - a0 / a1 * a1))) : Int32) := x_box_eq _
theorem x82 {E : mx_Ev} {n : Nat} {h : mx_H} {Q : Option mx_V → mx_H → Prop} {a0 : Int32} {a1 : Int32} (hK : (xK_ip Q h) (f82 a0 a1)) : mx_M E n 82 [.inl (.int a0), .inl (.int a1)] h Q := by
  cases n with
  | zero => exact mx_L.zero
  | succ n => exact sl82_0 (x_use (x_eq (K := (xK_ip Q h)) (f82_eq a0 a1) hK) (fun hK => (fun _ => (x308 (xh_i hK)))))
noncomputable def b81 : ((Int32 × Int32 × Int64 × Int64 × Int32 × mx_H)) → ((Int32 × Int32 × Int64 × Int64 × Int32 × mx_H)) ⊕ (Int64)
  | (a1, a2, a3, a5, a7, h) => (if (h.2.1 (.inl 96) (Int32.toNatClampNeg a1)) ≤ a7 then (Sum.inr ((if (if 0 < a5 then a5 else -a5) < (if 0 < a3 then a3 else -a3) then (if 0 < a3 then a3 else -a3) else (if 0 < a5 then a5 else -a5)) + ((if (if 0 < a5 then a5 else -a5) < (if 0 < a3 then a3 else -a3) then (if 0 < a5 then a5 else -a5) else (if 0 < a3 then a3 else -a3)) / 2) : Int64)) else (Sum.inl (a1, a2, (a3 + ((f80 a1 a7 h) * (Int32.toInt64 (f82 a7 a2)))), (a5 + ((f80 a1 a7 h) * (Int32.toInt64 (f82 (a7 + (a2 / 4)) a2)))), (a7 + 1), h)))
noncomputable def g81_8 (a1 : Int32) (a2 : Int32) (a3 : Int64) (a5 : Int64) (a7 : Int32) (h : mx_H) : Int64 := ml_wh b81 (a1, a2, a3, a5, a7, h)
theorem g81_8_eq (a1 : Int32) (a2 : Int32) (a3 : Int64) (a5 : Int64) (a7 : Int32) (h : mx_H) : g81_8 a1 a2 a3 a5 a7 h = (if (h.2.1 (.inl 96) (Int32.toNatClampNeg a1)) ≤ a7 then ((if (if 0 < a5 then a5 else -a5) < (if 0 < a3 then a3 else -a3) then (if 0 < a3 then a3 else -a3) else (if 0 < a5 then a5 else -a5)) + ((if (if 0 < a5 then a5 else -a5) < (if 0 < a3 then a3 else -a3) then (if 0 < a5 then a5 else -a5) else (if 0 < a3 then a3 else -a3)) / 2) : Int64) else (g81_8 a1 a2 (a3 + ((f80 a1 a7 h) * (Int32.toInt64 (f82 a7 a2)))) (a5 + ((f80 a1 a7 h) * (Int32.toInt64 (f82 (a7 + (a2 / 4)) a2)))) (a7 + 1) h)) := by
  unfold g81_8
  rw [ml_wh_eq]
  simp only [b81, ml_go_ite, ml_go_l, ml_go_r, ml_go_opt, ml_go_let, ml_go_h, ml_go_val]
  try rfl
noncomputable def f81 (a1 : Int32) (a2 : Int32) (h : mx_H) : Int64 := x_box (g81_8 a1 a2 0 0 0 h)
theorem f81_eq (a1 : Int32) (a2 : Int32) (h : mx_H) : f81 a1 a2 h = (g81_8 a1 a2 0 0 0 h) := x_box_eq _
theorem xw81 {E : mx_Ev} {Q : Option mx_V → mx_H → Prop} : ∀ n : Nat, (∀ (a1 : Int32) (a2 : Int32) (a3 : Int64) (a5 : Int64) (a7 : Int32) (h : mx_H), (xK_lp Q h) (g81_8 a1 a2 a3 a5 a7 h) → mx_L E n 81 8 [(0, .inr (.inl 94)), (1, .inl (.int a1)), (2, .inl (.int a2)), (3, .inl (.long a3)), (5, .inl (.long a5)), (7, .inl (.int a7))] [] h Q)
  | 0 => fun _ _ _ _ _ _ _ => mx_L.zero
  | n + 1 => fun a1 a2 a3 a5 a7 h hK => sl81_8 (x_use (x_eq (K := (xK_lp Q h)) (g81_8_eq a1 a2 a3 a5 a7 h) hK) (fun hK => (fun _ => (x_ite hK (fun hK => (fun _ => hK)) (fun hK => (x80 (xh_l (x82 (xh_i (x80 (xh_l (fun _ => (x82 (xh_i ((xw81 n) _ _ _ _ _ _ hK)))))))))))))))
theorem x81 {E : mx_Ev} {n : Nat} {h : mx_H} {Q : Option mx_V → mx_H → Prop} {a1 : Int32} {a2 : Int32} (hK : (xK_lp Q h) (f81 a1 a2 h)) : mx_M E n 81 [.inr (.inl 94), .inl (.int a1), .inl (.int a2)] h Q := by
  cases n with
  | zero => exact mx_L.zero
  | succ n => exact sl81_0 (x_use (x_eq (K := (xK_lp Q h)) (f81_eq a1 a2 h) hK) (fun hK => ((xw81 n) _ _ _ _ _ _ hK)))
noncomputable def b83 : ((Int32 × Int32 × Int64 × Int32 × mx_H)) → ((Int32 × Int32 × Int64 × Int32 × mx_H)) ⊕ (Int32)
  | (a1, a2, a3, a5, h) => (if 60 < a5 then (Sum.inr (a2 : Int32)) else (x_val (f81 a1 a5 h) (fun x3 => (if (lg_cmp (x3 / (Int32.toInt64 (if 1 < (h.2.1 (.inl 96) (Int32.toNatClampNeg a1)) then (h.2.1 (.inl 96) (Int32.toNatClampNeg a1)) else 1))) a3) ≤ 0 then (Sum.inl (a1, a2, a3, (a5 + 1), h)) else (Sum.inl (a1, a5, (x3 / (Int32.toInt64 (if 1 < (h.2.1 (.inl 96) (Int32.toNatClampNeg a1)) then (h.2.1 (.inl 96) (Int32.toNatClampNeg a1)) else 1))), (a5 + 1), h))))))
noncomputable def g83_9 (a1 : Int32) (a2 : Int32) (a3 : Int64) (a5 : Int32) (h : mx_H) : Int32 := ml_wh b83 (a1, a2, a3, a5, h)
theorem g83_9_eq (a1 : Int32) (a2 : Int32) (a3 : Int64) (a5 : Int32) (h : mx_H) : g83_9 a1 a2 a3 a5 h = (if 60 < a5 then (a2 : Int32) else (x_val (f81 a1 a5 h) (fun x3 => (if (lg_cmp (x3 / (Int32.toInt64 (if 1 < (h.2.1 (.inl 96) (Int32.toNatClampNeg a1)) then (h.2.1 (.inl 96) (Int32.toNatClampNeg a1)) else 1))) a3) ≤ 0 then (g83_9 a1 a2 a3 (a5 + 1) h) else (g83_9 a1 a5 (x3 / (Int32.toInt64 (if 1 < (h.2.1 (.inl 96) (Int32.toNatClampNeg a1)) then (h.2.1 (.inl 96) (Int32.toNatClampNeg a1)) else 1))) (a5 + 1) h))))) := by
  unfold g83_9
  rw [ml_wh_eq]
  simp only [b83, ml_go_ite, ml_go_l, ml_go_r, ml_go_opt, ml_go_let, ml_go_h, ml_go_val]
  try rfl
noncomputable def f83 (a1 : Int32) (h : mx_H) : Int32 := x_box (g83_9 a1 2 (-1) 2 h)
theorem f83_eq (a1 : Int32) (h : mx_H) : f83 a1 h = (g83_9 a1 2 (-1) 2 h) := x_box_eq _
theorem xw83 {E : mx_Ev} {Q : Option mx_V → mx_H → Prop} : ∀ n : Nat, (∀ (a1 : Int32) (a2 : Int32) (a3 : Int64) (a5 : Int32) (h : mx_H), (xK_ip Q h) (g83_9 a1 a2 a3 a5 h) → mx_L E n 83 9 [(0, .inr (.inl 94)), (1, .inl (.int a1)), (2, .inl (.int a2)), (3, .inl (.long a3)), (5, .inl (.int a5))] [] h Q)
  | 0 => fun _ _ _ _ _ _ => mx_L.zero
  | n + 1 => fun a1 a2 a3 a5 h hK => sl83_9 (x_use (x_eq (K := (xK_ip Q h)) (g83_9_eq a1 a2 a3 a5 h) hK) (fun hK => (x_ite hK (fun hK => hK) (fun hK => (x81 (xh_l (x_valk hK (fun hK => (fun _ => (fun _ => (x_ite hK (fun hK => ((xw83 n) _ _ _ _ _ hK)) (fun hK => ((xw83 n) _ _ _ _ _ hK)))))))))))))
theorem x83 {E : mx_Ev} {n : Nat} {h : mx_H} {Q : Option mx_V → mx_H → Prop} {a1 : Int32} (hK : (xK_ip Q h) (f83 a1 h)) : mx_M E n 83 [.inr (.inl 94), .inl (.int a1)] h Q := by
  cases n with
  | zero => exact mx_L.zero
  | succ n => exact sl83_0 (x_use (x_eq (K := (xK_ip Q h)) (f83_eq a1 h) hK) (fun hK => ((xw83 n) _ _ _ _ _ hK)))
noncomputable def b85 : ((Int32 × Int32 × Int32 × mx_H)) → ((Int32 × Int32 × Int32 × mx_H)) ⊕ (mx_H)
  | (a1, a2, a3, h) => (if a1 ≤ a3 then (Sum.inr h) else (if 120 ≤ (h.2.1 (.inl 1) 1) then (Sum.inr h) else (Sum.inl (a1, a2, (a3 + 1), mx_uI (mx_uI h (.inl 2) (Int32.toNatClampNeg (h.2.1 (.inl 1) 1)) (((a2.toUInt32 >>> (Int32.toUInt32 (8 * a3) &&& Int32.toUInt32 31)).toInt32) &&& 255)) (.inl 1) 1 (((mx_uI h (.inl 2) (Int32.toNatClampNeg (h.2.1 (.inl 1) 1)) (((a2.toUInt32 >>> (Int32.toUInt32 (8 * a3) &&& Int32.toUInt32 31)).toInt32) &&& 255)).2.1 (.inl 1) 1) + 1)))))
noncomputable def g85_2 (a1 : Int32) (a2 : Int32) (a3 : Int32) (h : mx_H) : mx_H := ml_wh b85 (a1, a2, a3, h)
theorem g85_2_eq (a1 : Int32) (a2 : Int32) (a3 : Int32) (h : mx_H) : g85_2 a1 a2 a3 h = (if a1 ≤ a3 then h else (if 120 ≤ (h.2.1 (.inl 1) 1) then h else (g85_2 a1 a2 (a3 + 1) (mx_uI (mx_uI h (.inl 2) (Int32.toNatClampNeg (h.2.1 (.inl 1) 1)) (((a2.toUInt32 >>> (Int32.toUInt32 (8 * a3) &&& Int32.toUInt32 31)).toInt32) &&& 255)) (.inl 1) 1 (((mx_uI h (.inl 2) (Int32.toNatClampNeg (h.2.1 (.inl 1) 1)) (((a2.toUInt32 >>> (Int32.toUInt32 (8 * a3) &&& Int32.toUInt32 31)).toInt32) &&& 255)).2.1 (.inl 1) 1) + 1))))) := by
  unfold g85_2
  rw [ml_wh_eq]
  simp only [b85, ml_go_ite, ml_go_l, ml_go_r, ml_go_opt, ml_go_let, ml_go_h, ml_go_val]
  try rfl
noncomputable def f85 (a1 : Int32) (a2 : Int32) (h : mx_H) : mx_H := x_box (g85_2 a1 a2 0 h)
theorem f85_eq (a1 : Int32) (a2 : Int32) (h : mx_H) : f85 a1 a2 h = (g85_2 a1 a2 0 h) := x_box_eq _
theorem xw85 {E : mx_Ev} {Q : Option mx_V → mx_H → Prop} : ∀ n : Nat, (∀ (a1 : Int32) (a2 : Int32) (a3 : Int32) (h : mx_H), (xK_v Q) (g85_2 a1 a2 a3 h) → mx_L E n 85 2 [(0, .inr (.inl 1)), (1, .inl (.int a1)), (2, .inl (.int a2)), (3, .inl (.int a3))] [] h Q)
  | 0 => fun _ _ _ _ _ => mx_L.zero
  | n + 1 => fun a1 a2 a3 h hK => sl85_2 (x_use (x_eq (K := (xK_v Q)) (g85_2_eq a1 a2 a3 h) hK) (fun hK => (x_ite hK (fun hK => hK) (fun hK => (x_ite hK (fun hK => hK) (fun hK => (fun _ => ((xw85 n) _ _ _ _ hK))))))))
theorem x85 {E : mx_Ev} {n : Nat} {h : mx_H} {Q : Option mx_V → mx_H → Prop} {a1 : Int32} {a2 : Int32} (hK : (xK_v Q) (f85 a1 a2 h)) : mx_M E n 85 [.inr (.inl 1), .inl (.int a1), .inl (.int a2)] h Q := by
  cases n with
  | zero => exact mx_L.zero
  | succ n => exact sl85_0 (x_use (x_eq (K := (xK_v Q)) (f85_eq a1 a2 h) hK) (fun hK => ((xw85 n) _ _ _ _ hK)))
noncomputable def f92  (h : mx_H) : Int32 := x_box (if (h.2.1 (.inl 1) 1) ≤ (h.2.1 (.inl 1) 2) then ((-1) : Int32) else (if 120 ≤ (h.2.1 (.inl 1) 2) then ((-1) : Int32) else (h.2.1 (.inl 2) (Int32.toNatClampNeg (h.2.1 (.inl 1) 2)) : Int32)))
theorem f92_eq  (h : mx_H) : f92  h = (if (h.2.1 (.inl 1) 1) ≤ (h.2.1 (.inl 1) 2) then ((-1) : Int32) else (if 120 ≤ (h.2.1 (.inl 1) 2) then ((-1) : Int32) else (h.2.1 (.inl 2) (Int32.toNatClampNeg (h.2.1 (.inl 1) 2)) : Int32))) := x_box_eq _
theorem x92 {E : mx_Ev} {n : Nat} {h : mx_H} {Q : Option mx_V → mx_H → Prop} (hK : (xK_ip Q h) (f92  h)) : mx_M E n 92 [.inr (.inl 1)] h Q := by
  cases n with
  | zero => exact mx_L.zero
  | succ n => exact sl92_0 (x_use (x_eq (K := (xK_ip Q h)) (f92_eq  h) hK) (fun hK => (x_ite hK (fun hK => hK) (fun hK => (x_ite hK (fun hK => hK) (fun hK => (fun _ => hK)))))))
noncomputable def f93  (h : mx_H) : Int32 := x_box (x_val (f92 h) (fun x3 => (if (f157 x3 49 57) = 0 then (0 : Int32) else (x3 - 48 : Int32))))
theorem f93_eq  (h : mx_H) : f93  h = (x_val (f92 h) (fun x3 => (if (f157 x3 49 57) = 0 then (0 : Int32) else (x3 - 48 : Int32)))) := x_box_eq _
theorem x93 {E : mx_Ev} {n : Nat} {h : mx_H} {Q : Option mx_V → mx_H → Prop} (hK : (xK_ip Q h) (f93  h)) : mx_M E n 93 [.inr (.inl 1)] h Q := by
  cases n with
  | zero => exact mx_L.zero
  | succ n => exact sl93_0 (x_use (x_eq (K := (xK_ip Q h)) (f93_eq  h) hK) (fun hK => (x92 (xh_i (x_valk hK (fun hK => (x157 (xh_i (x_ite hK (fun hK => hK) (fun hK => hK))))))))))
noncomputable def b87 : ((Nat × Int32 × mx_H)) → ((Nat × Int32 × mx_H)) ⊕ (Int32 × mx_H)
  | (a1, a2, h) => (if 6 ≤ a2 then (if (h.2.1 (.inr (a1, 0)) 0) ≤ 0 then (Sum.inr ((0 : Int32), h)) else (Sum.inr ((1 : Int32), h))) else (if (f93 h) ≤ 0 then (if (h.2.1 (.inr (a1, 0)) 0) ≤ 0 then (Sum.inr ((0 : Int32), h)) else (Sum.inr ((1 : Int32), h))) else (x_val (f93 h) (fun x6 => (Sum.inl (a1, (a2 + 1), mx_uI (mx_uI (mx_uI h (.inr (a1, 1)) (Int32.toNatClampNeg a2) x6) (.inr (a1, 0)) 0 (a2 + 1)) (.inl 1) 2 (((mx_uI (mx_uI h (.inr (a1, 1)) (Int32.toNatClampNeg a2) x6) (.inr (a1, 0)) 0 (a2 + 1)).2.1 (.inl 1) 2) + 1)))))))
noncomputable def g87_23 (a1 : Nat) (a2 : Int32) (h : mx_H) : Int32 × mx_H := ml_wh b87 (a1, a2, h)
theorem g87_23_eq (a1 : Nat) (a2 : Int32) (h : mx_H) : g87_23 a1 a2 h = (if 6 ≤ a2 then (if (h.2.1 (.inr (a1, 0)) 0) ≤ 0 then ((0 : Int32), h) else ((1 : Int32), h)) else (if (f93 h) ≤ 0 then (if (h.2.1 (.inr (a1, 0)) 0) ≤ 0 then ((0 : Int32), h) else ((1 : Int32), h)) else (x_val (f93 h) (fun x6 => (g87_23 a1 (a2 + 1) (mx_uI (mx_uI (mx_uI h (.inr (a1, 1)) (Int32.toNatClampNeg a2) x6) (.inr (a1, 0)) 0 (a2 + 1)) (.inl 1) 2 (((mx_uI (mx_uI h (.inr (a1, 1)) (Int32.toNatClampNeg a2) x6) (.inr (a1, 0)) 0 (a2 + 1)).2.1 (.inl 1) 2) + 1))))))) := by
  unfold g87_23
  rw [ml_wh_eq]
  simp only [b87, ml_go_ite, ml_go_l, ml_go_r, ml_go_opt, ml_go_let, ml_go_h, ml_go_val]
  try rfl
noncomputable def f87 (a1 : Nat) (h : mx_H) : Int32 × mx_H := x_box (if (f92 h) = 99 then (g87_23 a1 0 (mx_uI h (.inl 1) 2 ((h.2.1 (.inl 1) 2) + 1))) else ((0 : Int32), h))
theorem f87_eq (a1 : Nat) (h : mx_H) : f87 a1 h = (if (f92 h) = 99 then (g87_23 a1 0 (mx_uI h (.inl 1) 2 ((h.2.1 (.inl 1) 2) + 1))) else ((0 : Int32), h)) := x_box_eq _
theorem xw87 {E : mx_Ev} {Q : Option mx_V → mx_H → Prop} : ∀ n : Nat, (∀ (a1 : Nat) (a2 : Int32) (h : mx_H), (xK_i Q) (g87_23 a1 a2 h) → mx_L E n 87 23 [(0, .inr (.inl 1)), (1, .inr (.inr (a1, 0))), (2, .inl (.int a2))] [] h Q)
  | 0 => fun _ _ _ _ => mx_L.zero
  | n + 1 => fun a1 a2 h hK => sl87_23 (x_use (x_eq (K := (xK_i Q)) (g87_23_eq a1 a2 h) hK) (fun hK => (x_ite hK (fun hK => (x_ite hK (fun hK => (fun _ => hK)) (fun hK => (fun _ => hK)))) (fun hK => (x93 (xh_i (x_ite hK (fun hK => (x_ite hK (fun hK => (fun _ => hK)) (fun hK => (fun _ => hK)))) (fun hK => (x93 (xh_i (x_valk hK (fun hK => (fun _ => ((xw87 n) _ _ _ hK))))))))))))))
theorem x87 {E : mx_Ev} {n : Nat} {h : mx_H} {Q : Option mx_V → mx_H → Prop} {a1 : Nat} (hK : (xK_i Q) (f87 a1 h)) : mx_M E n 87 [.inr (.inl 1), .inr (.inr (a1, 0))] h Q := by
  cases n with
  | zero => exact mx_L.zero
  | succ n => exact sl87_0 (x_use (x_eq (K := (xK_i Q)) (f87_eq a1 h) hK) (fun hK => (x92 (xh_i (x_ite hK (fun hK => ((xw87 n) _ _ _ hK)) (fun hK => (fun _ => hK)))))))
noncomputable def f94 (a1 : Nat) (h : mx_H) : Int32 := x_box (x_val (f92 h) (fun x3 => (if (f157 (x3 - 97) 0 ((h.2.1 (.inr (a1, 0)) 0) - 1)) = 0 then ((-1) : Int32) else (x3 - 97 : Int32))))
theorem f94_eq (a1 : Nat) (h : mx_H) : f94 a1 h = (x_val (f92 h) (fun x3 => (if (f157 (x3 - 97) 0 ((h.2.1 (.inr (a1, 0)) 0) - 1)) = 0 then ((-1) : Int32) else (x3 - 97 : Int32)))) := x_box_eq _
theorem x94 {E : mx_Ev} {n : Nat} {h : mx_H} {Q : Option mx_V → mx_H → Prop} {a1 : Nat} (hK : (xK_ip Q h) (f94 a1 h)) : mx_M E n 94 [.inr (.inl 1), .inr (.inr (a1, 0))] h Q := by
  cases n with
  | zero => exact mx_L.zero
  | succ n => exact sl94_0 (x_use (x_eq (K := (xK_ip Q h)) (f94_eq a1 h) hK) (fun hK => (x92 (xh_i (x_valk hK (fun hK => (x157 (xh_i (x_ite hK (fun hK => hK) (fun hK => hK))))))))))
noncomputable def f89 (a1 : Nat) (h : mx_H) : Int32 × mx_H := x_box (x_val (f94 a1 h) (fun x3 => (if 0 ≤ x3 then (x_val (f94 a1 (mx_uI h (.inl 1) 2 ((h.2.1 (.inl 1) 2) + 1))) (fun x6 => (if x6 < 0 then ((0 : Int32), (mx_uI h (.inl 1) 2 ((h.2.1 (.inl 1) 2) + 1))) else (if x6 = x3 then ((0 : Int32), (mx_uI h (.inl 1) 2 ((h.2.1 (.inl 1) 2) + 1))) else (if (f61 a1 x3 x6 (mx_uI h (.inl 1) 2 ((h.2.1 (.inl 1) 2) + 1))) < 0 then (if (f93 (mx_uI (mx_uI h (.inl 1) 2 ((h.2.1 (.inl 1) 2) + 1)) (.inl 1) 2 (((mx_uI h (.inl 1) 2 ((h.2.1 (.inl 1) 2) + 1)).2.1 (.inl 1) 2) + 1))) ≠ 0 then (x_h (f63 a1 x3 x6 (f93 (mx_uI (mx_uI h (.inl 1) 2 ((h.2.1 (.inl 1) 2) + 1)) (.inl 1) 2 (((mx_uI h (.inl 1) 2 ((h.2.1 (.inl 1) 2) + 1)).2.1 (.inl 1) 2) + 1))) (mx_uI (mx_uI h (.inl 1) 2 ((h.2.1 (.inl 1) 2) + 1)) (.inl 1) 2 (((mx_uI h (.inl 1) 2 ((h.2.1 (.inl 1) 2) + 1)).2.1 (.inl 1) 2) + 1))) (fun h17 => ((1 : Int32), mx_uI h17 (.inl 1) 2 ((h17.2.1 (.inl 1) 2) + 1)))) else ((0 : Int32), (mx_uI (mx_uI h (.inl 1) 2 ((h.2.1 (.inl 1) 2) + 1)) (.inl 1) 2 (((mx_uI h (.inl 1) 2 ((h.2.1 (.inl 1) 2) + 1)).2.1 (.inl 1) 2) + 1)))) else ((0 : Int32), (mx_uI h (.inl 1) 2 ((h.2.1 (.inl 1) 2) + 1)))))))) else ((0 : Int32), h))))
theorem f89_eq (a1 : Nat) (h : mx_H) : f89 a1 h = (x_val (f94 a1 h) (fun x3 => (if 0 ≤ x3 then (x_val (f94 a1 (mx_uI h (.inl 1) 2 ((h.2.1 (.inl 1) 2) + 1))) (fun x6 => (if x6 < 0 then ((0 : Int32), (mx_uI h (.inl 1) 2 ((h.2.1 (.inl 1) 2) + 1))) else (if x6 = x3 then ((0 : Int32), (mx_uI h (.inl 1) 2 ((h.2.1 (.inl 1) 2) + 1))) else (if (f61 a1 x3 x6 (mx_uI h (.inl 1) 2 ((h.2.1 (.inl 1) 2) + 1))) < 0 then (if (f93 (mx_uI (mx_uI h (.inl 1) 2 ((h.2.1 (.inl 1) 2) + 1)) (.inl 1) 2 (((mx_uI h (.inl 1) 2 ((h.2.1 (.inl 1) 2) + 1)).2.1 (.inl 1) 2) + 1))) ≠ 0 then (x_h (f63 a1 x3 x6 (f93 (mx_uI (mx_uI h (.inl 1) 2 ((h.2.1 (.inl 1) 2) + 1)) (.inl 1) 2 (((mx_uI h (.inl 1) 2 ((h.2.1 (.inl 1) 2) + 1)).2.1 (.inl 1) 2) + 1))) (mx_uI (mx_uI h (.inl 1) 2 ((h.2.1 (.inl 1) 2) + 1)) (.inl 1) 2 (((mx_uI h (.inl 1) 2 ((h.2.1 (.inl 1) 2) + 1)).2.1 (.inl 1) 2) + 1))) (fun h17 => ((1 : Int32), mx_uI h17 (.inl 1) 2 ((h17.2.1 (.inl 1) 2) + 1)))) else ((0 : Int32), (mx_uI (mx_uI h (.inl 1) 2 ((h.2.1 (.inl 1) 2) + 1)) (.inl 1) 2 (((mx_uI h (.inl 1) 2 ((h.2.1 (.inl 1) 2) + 1)).2.1 (.inl 1) 2) + 1)))) else ((0 : Int32), (mx_uI h (.inl 1) 2 ((h.2.1 (.inl 1) 2) + 1)))))))) else ((0 : Int32), h)))) := x_box_eq _
theorem x89 {E : mx_Ev} {n : Nat} {h : mx_H} {Q : Option mx_V → mx_H → Prop} {a1 : Nat} (hK : (xK_i Q) (f89 a1 h)) : mx_M E n 89 [.inr (.inl 1), .inr (.inr (a1, 0))] h Q := by
  cases n with
  | zero => exact mx_L.zero
  | succ n => exact sl89_0 (x_use (x_eq (K := (xK_i Q)) (f89_eq a1 h) hK) (fun hK => (x94 (xh_i (x_valk hK (fun hK => (x_ite hK (fun hK => (x94 (xh_i (x_valk hK (fun hK => (x_ite hK (fun hK => (fun _ => hK)) (fun hK => (x_ite hK (fun hK => (fun _ => hK)) (fun hK => (x61 (xh_i (x_ite hK (fun hK => (x93 (xh_i (x_ite hK (fun hK => (x93 (xh_i (x63 (xh_n (x_hk hK (fun hK => (fun _ => hK)))))))) (fun hK => (fun _ => hK)))))) (fun hK => (fun _ => hK)))))))))))))) (fun hK => (fun _ => hK)))))))))
noncomputable def f90 (a1 : Nat) (h : mx_H) : Int32 × mx_H := x_box (x_val (f94 a1 h) (fun x3 => (if x3 < 0 then ((0 : Int32), h) else (if (h.2.1 (.inr (a1, 4)) (Int32.toNatClampNeg x3)) = 0 then ((1 : Int32), mx_uI (mx_uI h (.inl 1) 2 ((h.2.1 (.inl 1) 2) + 1)) (.inr (a1, 4)) (Int32.toNatClampNeg x3) 1) else ((0 : Int32), h)))))
theorem f90_eq (a1 : Nat) (h : mx_H) : f90 a1 h = (x_val (f94 a1 h) (fun x3 => (if x3 < 0 then ((0 : Int32), h) else (if (h.2.1 (.inr (a1, 4)) (Int32.toNatClampNeg x3)) = 0 then ((1 : Int32), mx_uI (mx_uI h (.inl 1) 2 ((h.2.1 (.inl 1) 2) + 1)) (.inr (a1, 4)) (Int32.toNatClampNeg x3) 1) else ((0 : Int32), h))))) := x_box_eq _
theorem x90 {E : mx_Ev} {n : Nat} {h : mx_H} {Q : Option mx_V → mx_H → Prop} {a1 : Nat} (hK : (xK_i Q) (f90 a1 h)) : mx_M E n 90 [.inr (.inl 1), .inr (.inr (a1, 0))] h Q := by
  cases n with
  | zero => exact mx_L.zero
  | succ n => exact sl90_0 (x_use (x_eq (K := (xK_i Q)) (f90_eq a1 h) hK) (fun hK => (x94 (xh_i (x_valk hK (fun hK => (x_ite hK (fun hK => (fun _ => hK)) (fun hK => (fun _ => (x_ite hK (fun hK => (fun _ => (fun _ => hK))) (fun hK => (fun _ => hK))))))))))))
noncomputable def f91 (a1 : Nat) (a2 : mx_A) (h : mx_H) : Int32 × mx_H := x_box (x_val (f94 a1 h) (fun x3 => (if x3 < 0 then ((0 : Int32), h) else (if (h.2.1 a2 (Int32.toNatClampNeg x3)) = 0 then (if (f93 (mx_uI h (.inl 1) 2 ((h.2.1 (.inl 1) 2) + 1))) ≠ 0 then (x_val (f93 (mx_uI h (.inl 1) 2 ((h.2.1 (.inl 1) 2) + 1))) (fun x9 => ((1 : Int32), mx_uI (mx_uI (mx_uI h (.inl 1) 2 ((h.2.1 (.inl 1) 2) + 1)) a2 (Int32.toNatClampNeg x3) x9) (.inl 1) 2 (((mx_uI (mx_uI h (.inl 1) 2 ((h.2.1 (.inl 1) 2) + 1)) a2 (Int32.toNatClampNeg x3) x9).2.1 (.inl 1) 2) + 1)))) else ((0 : Int32), (mx_uI h (.inl 1) 2 ((h.2.1 (.inl 1) 2) + 1)))) else ((0 : Int32), h)))))
theorem f91_eq (a1 : Nat) (a2 : mx_A) (h : mx_H) : f91 a1 a2 h = (x_val (f94 a1 h) (fun x3 => (if x3 < 0 then ((0 : Int32), h) else (if (h.2.1 a2 (Int32.toNatClampNeg x3)) = 0 then (if (f93 (mx_uI h (.inl 1) 2 ((h.2.1 (.inl 1) 2) + 1))) ≠ 0 then (x_val (f93 (mx_uI h (.inl 1) 2 ((h.2.1 (.inl 1) 2) + 1))) (fun x9 => ((1 : Int32), mx_uI (mx_uI (mx_uI h (.inl 1) 2 ((h.2.1 (.inl 1) 2) + 1)) a2 (Int32.toNatClampNeg x3) x9) (.inl 1) 2 (((mx_uI (mx_uI h (.inl 1) 2 ((h.2.1 (.inl 1) 2) + 1)) a2 (Int32.toNatClampNeg x3) x9).2.1 (.inl 1) 2) + 1)))) else ((0 : Int32), (mx_uI h (.inl 1) 2 ((h.2.1 (.inl 1) 2) + 1)))) else ((0 : Int32), h))))) := x_box_eq _
theorem x91 {E : mx_Ev} {n : Nat} {h : mx_H} {Q : Option mx_V → mx_H → Prop} {a1 : Nat} {a2 : mx_A} (hK : (xK_i Q) (f91 a1 a2 h)) : mx_M E n 91 [.inr (.inl 1), .inr (.inr (a1, 0)), .inr a2] h Q := by
  cases n with
  | zero => exact mx_L.zero
  | succ n => exact sl91_0 (x_use (x_eq (K := (xK_i Q)) (f91_eq a1 a2 h) hK) (fun hK => (x94 (xh_i (x_valk hK (fun hK => (x_ite hK (fun hK => (fun _ => hK)) (fun hK => (x_mli (fun _ => (x_ite hK (fun hK => (x93 (xh_i (x_ite hK (fun hK => (x93 (xh_i (x_valk hK (fun hK => (x_mli (fun _ => (fun _ => hK)))))))) (fun hK => (fun _ => hK)))))) (fun hK => (fun _ => hK)))))))))))))
noncomputable def b88 : ((Nat × Int32 × mx_H)) → ((Nat × Int32 × mx_H)) ⊕ (Int32 × mx_H)
  | (a1, a2, h) => (if a2 ≠ 112 then (if a2 ≠ 104 then (if a2 ≠ 115 then (x_let (f91 a1 (.inr (a1, 3)) (mx_uI h (.inl 1) 2 ((h.2.1 (.inl 1) 2) + 1))) (fun x3 h2 => (Sum.inr ((x3 : Int32), h2)))) else (x_let (f91 a1 (.inr (a1, 2)) (mx_uI h (.inl 1) 2 ((h.2.1 (.inl 1) 2) + 1))) (fun x6 h5 => (Sum.inr ((x6 : Int32), h5))))) else (x_let (f90 a1 (mx_uI h (.inl 1) 2 ((h.2.1 (.inl 1) 2) + 1))) (fun x9 h8 => (Sum.inr ((x9 : Int32), h8))))) else (x_let (f89 a1 (mx_uI h (.inl 1) 2 ((h.2.1 (.inl 1) 2) + 1))) (fun x12 h11 => (Sum.inr ((x12 : Int32), h11)))))
noncomputable def g88_52 (a1 : Nat) (a2 : Int32) (h : mx_H) : Int32 × mx_H := ml_wh b88 (a1, a2, h)
theorem g88_52_eq (a1 : Nat) (a2 : Int32) (h : mx_H) : g88_52 a1 a2 h = (if a2 ≠ 112 then (if a2 ≠ 104 then (if a2 ≠ 115 then (x_let (f91 a1 (.inr (a1, 3)) (mx_uI h (.inl 1) 2 ((h.2.1 (.inl 1) 2) + 1))) (fun x3 h2 => ((x3 : Int32), h2))) else (x_let (f91 a1 (.inr (a1, 2)) (mx_uI h (.inl 1) 2 ((h.2.1 (.inl 1) 2) + 1))) (fun x6 h5 => ((x6 : Int32), h5)))) else (x_let (f90 a1 (mx_uI h (.inl 1) 2 ((h.2.1 (.inl 1) 2) + 1))) (fun x9 h8 => ((x9 : Int32), h8)))) else (x_let (f89 a1 (mx_uI h (.inl 1) 2 ((h.2.1 (.inl 1) 2) + 1))) (fun x12 h11 => ((x12 : Int32), h11)))) := by
  unfold g88_52
  rw [ml_wh_eq]
  simp only [b88, ml_go_ite, ml_go_l, ml_go_r, ml_go_opt, ml_go_let, ml_go_h, ml_go_val]
  try rfl
noncomputable def f88 (a1 : Nat) (h : mx_H) : Int32 × mx_H := x_box (if (f92 h) = 59 then (x_val (f92 (mx_uI h (.inl 1) 2 ((h.2.1 (.inl 1) 2) + 1))) (fun x6 => (if x6 = 112 then (g88_52 a1 x6 (mx_uI h (.inl 1) 2 ((h.2.1 (.inl 1) 2) + 1))) else (if x6 = 115 then (g88_52 a1 x6 (mx_uI h (.inl 1) 2 ((h.2.1 (.inl 1) 2) + 1))) else (if x6 = 104 then (g88_52 a1 x6 (mx_uI h (.inl 1) 2 ((h.2.1 (.inl 1) 2) + 1))) else (if x6 = 119 then (g88_52 a1 x6 (mx_uI h (.inl 1) 2 ((h.2.1 (.inl 1) 2) + 1))) else ((0 : Int32), (mx_uI h (.inl 1) 2 ((h.2.1 (.inl 1) 2) + 1))))))))) else ((0 : Int32), h))
theorem f88_eq (a1 : Nat) (h : mx_H) : f88 a1 h = (if (f92 h) = 59 then (x_val (f92 (mx_uI h (.inl 1) 2 ((h.2.1 (.inl 1) 2) + 1))) (fun x6 => (if x6 = 112 then (g88_52 a1 x6 (mx_uI h (.inl 1) 2 ((h.2.1 (.inl 1) 2) + 1))) else (if x6 = 115 then (g88_52 a1 x6 (mx_uI h (.inl 1) 2 ((h.2.1 (.inl 1) 2) + 1))) else (if x6 = 104 then (g88_52 a1 x6 (mx_uI h (.inl 1) 2 ((h.2.1 (.inl 1) 2) + 1))) else (if x6 = 119 then (g88_52 a1 x6 (mx_uI h (.inl 1) 2 ((h.2.1 (.inl 1) 2) + 1))) else ((0 : Int32), (mx_uI h (.inl 1) 2 ((h.2.1 (.inl 1) 2) + 1))))))))) else ((0 : Int32), h)) := x_box_eq _
theorem xw88 {E : mx_Ev} {Q : Option mx_V → mx_H → Prop} : ∀ n : Nat, (∀ (a1 : Nat) (a2 : Int32) (h : mx_H), (xK_i Q) (g88_52 a1 a2 h) → mx_L E n 88 52 [(0, .inr (.inl 1)), (1, .inr (.inr (a1, 0))), (2, .inl (.int a2))] [] h Q)
  | 0 => fun _ _ _ _ => mx_L.zero
  | n + 1 => fun a1 a2 h hK => sl88_52 (x_use (x_eq (K := (xK_i Q)) (g88_52_eq a1 a2 h) hK) (fun hK => (x_ite hK (fun hK => (x_ite hK (fun hK => (x_ite hK (fun hK => (x91 (xh_i (x_letk hK (fun hK => (fun _ => hK)))))) (fun hK => (x91 (xh_i (x_letk hK (fun hK => (fun _ => hK)))))))) (fun hK => (x90 (xh_i (x_letk hK (fun hK => (fun _ => hK)))))))) (fun hK => (x89 (xh_i (x_letk hK (fun hK => (fun _ => hK)))))))))
theorem x88 {E : mx_Ev} {n : Nat} {h : mx_H} {Q : Option mx_V → mx_H → Prop} {a1 : Nat} (hK : (xK_i Q) (f88 a1 h)) : mx_M E n 88 [.inr (.inl 1), .inr (.inr (a1, 0))] h Q := by
  cases n with
  | zero => exact mx_L.zero
  | succ n => exact sl88_0 (x_use (x_eq (K := (xK_i Q)) (f88_eq a1 h) hK) (fun hK => (x92 (xh_i (x_ite hK (fun hK => (x92 (xh_i (x_valk hK (fun hK => (x_ite hK (fun hK => ((xw88 n) _ _ _ hK)) (fun hK => (x_ite hK (fun hK => ((xw88 n) _ _ _ hK)) (fun hK => (x_ite hK (fun hK => ((xw88 n) _ _ _ hK)) (fun hK => (x_ite hK (fun hK => ((xw88 n) _ _ _ hK)) (fun hK => (fun _ => hK)))))))))))))) (fun hK => (fun _ => hK)))))))
noncomputable def b86 : ((Nat × Int32 × Int32 × mx_H)) → ((Nat × Int32 × Int32 × mx_H)) ⊕ (Int32 × mx_H)
  | (a1, a2, a3, h) => (if a2 = 0 then (if a2 = 0 then (Sum.inr ((h.2.1 (.inl 1) 2 : Int32), h)) else (Sum.inr (((-1) : Int32), h))) else (if (h.2.1 (.inl 1) 1) ≤ (h.2.1 (.inl 1) 2) then (if a2 = 0 then (Sum.inr ((h.2.1 (.inl 1) 2 : Int32), h)) else (Sum.inr (((-1) : Int32), h))) else (if 120 ≤ a3 then (if a2 = 0 then (Sum.inr ((h.2.1 (.inl 1) 2 : Int32), h)) else (Sum.inr (((-1) : Int32), h))) else (x_let (f88 a1 h) (fun x3 h2 => (Sum.inl (a1, x3, (a3 + 1), h2)))))))
noncomputable def g86_17 (a1 : Nat) (a2 : Int32) (a3 : Int32) (h : mx_H) : Int32 × mx_H := ml_wh b86 (a1, a2, a3, h)
theorem g86_17_eq (a1 : Nat) (a2 : Int32) (a3 : Int32) (h : mx_H) : g86_17 a1 a2 a3 h = (if a2 = 0 then (if a2 = 0 then ((h.2.1 (.inl 1) 2 : Int32), h) else (((-1) : Int32), h)) else (if (h.2.1 (.inl 1) 1) ≤ (h.2.1 (.inl 1) 2) then (if a2 = 0 then ((h.2.1 (.inl 1) 2 : Int32), h) else (((-1) : Int32), h)) else (if 120 ≤ a3 then (if a2 = 0 then ((h.2.1 (.inl 1) 2 : Int32), h) else (((-1) : Int32), h)) else (x_let (f88 a1 h) (fun x3 h2 => (g86_17 a1 x3 (a3 + 1) h2)))))) := by
  unfold g86_17
  rw [ml_wh_eq]
  simp only [b86, ml_go_ite, ml_go_l, ml_go_r, ml_go_opt, ml_go_let, ml_go_h, ml_go_val]
  try rfl
noncomputable def f86 (a1 : Nat) (h : mx_H) : Int32 × mx_H := x_box (x_h (f59 a1 h) (fun h2 => (x_let (f87 a1 (mx_uI h2 (.inl 1) 2 0)) (fun x5 h4 => (g86_17 a1 x5 0 h4)))))
theorem f86_eq (a1 : Nat) (h : mx_H) : f86 a1 h = (x_h (f59 a1 h) (fun h2 => (x_let (f87 a1 (mx_uI h2 (.inl 1) 2 0)) (fun x5 h4 => (g86_17 a1 x5 0 h4))))) := x_box_eq _
theorem xw86 {E : mx_Ev} {Q : Option mx_V → mx_H → Prop} : ∀ n : Nat, (∀ (a1 : Nat) (a2 : Int32) (a3 : Int32) (h : mx_H), (xK_i Q) (g86_17 a1 a2 a3 h) → mx_L E n 86 17 [(0, .inr (.inl 1)), (1, .inr (.inr (a1, 0))), (2, .inl (.int a2)), (3, .inl (.int a3))] [] h Q)
  | 0 => fun _ _ _ _ _ => mx_L.zero
  | n + 1 => fun a1 a2 a3 h hK => sl86_17 (x_use (x_eq (K := (xK_i Q)) (g86_17_eq a1 a2 a3 h) hK) (fun hK => (x_ite hK (fun hK => (x_ite hK (fun hK => hK) (fun hK => hK))) (fun hK => (x_ite hK (fun hK => (x_ite hK (fun hK => hK) (fun hK => hK))) (fun hK => (x_ite hK (fun hK => (x_ite hK (fun hK => hK) (fun hK => hK))) (fun hK => (x88 (xh_i (x_letk hK (fun hK => ((xw86 n) _ _ _ _ hK)))))))))))))
theorem x86 {E : mx_Ev} {n : Nat} {h : mx_H} {Q : Option mx_V → mx_H → Prop} {a1 : Nat} (hK : (xK_i Q) (f86 a1 h)) : mx_M E n 86 [.inr (.inl 1), .inr (.inr (a1, 0))] h Q := by
  cases n with
  | zero => exact mx_L.zero
  | succ n => exact sl86_0 (x_use (x_eq (K := (xK_i Q)) (f86_eq a1 h) hK) (fun hK => (x59 (xh_n (x_hk hK (fun hK => (x87 (xh_i (x_letk hK (fun hK => ((xw86 n) _ _ _ _ hK)))))))))))
noncomputable def f98 (a0 : Nat) (a1 : Int32) (a2 : Nat) (a3 : Int32) (h : mx_H) : Int32 := x_box (if (h.2.1 (.inr (a0, 1)) (Int32.toNatClampNeg a1)) ≠ (h.2.1 (.inr (a2, 1)) (Int32.toNatClampNeg a3)) then (0 : Int32) else (if (h.2.1 (.inr (a0, 2)) (Int32.toNatClampNeg a1)) ≠ (h.2.1 (.inr (a2, 2)) (Int32.toNatClampNeg a3)) then (0 : Int32) else (if (h.2.1 (.inr (a0, 3)) (Int32.toNatClampNeg a1)) ≠ (h.2.1 (.inr (a2, 3)) (Int32.toNatClampNeg a3)) then (0 : Int32) else (if (h.2.1 (.inr (a0, 4)) (Int32.toNatClampNeg a1)) ≠ (h.2.1 (.inr (a2, 4)) (Int32.toNatClampNeg a3)) then (0 : Int32) else (1 : Int32)))))
theorem f98_eq (a0 : Nat) (a1 : Int32) (a2 : Nat) (a3 : Int32) (h : mx_H) : f98 a0 a1 a2 a3 h = (if (h.2.1 (.inr (a0, 1)) (Int32.toNatClampNeg a1)) ≠ (h.2.1 (.inr (a2, 1)) (Int32.toNatClampNeg a3)) then (0 : Int32) else (if (h.2.1 (.inr (a0, 2)) (Int32.toNatClampNeg a1)) ≠ (h.2.1 (.inr (a2, 2)) (Int32.toNatClampNeg a3)) then (0 : Int32) else (if (h.2.1 (.inr (a0, 3)) (Int32.toNatClampNeg a1)) ≠ (h.2.1 (.inr (a2, 3)) (Int32.toNatClampNeg a3)) then (0 : Int32) else (if (h.2.1 (.inr (a0, 4)) (Int32.toNatClampNeg a1)) ≠ (h.2.1 (.inr (a2, 4)) (Int32.toNatClampNeg a3)) then (0 : Int32) else (1 : Int32))))) := x_box_eq _
theorem x98 {E : mx_Ev} {n : Nat} {h : mx_H} {Q : Option mx_V → mx_H → Prop} {a0 : Nat} {a1 : Int32} {a2 : Nat} {a3 : Int32} (hK : (xK_ip Q h) (f98 a0 a1 a2 a3 h)) : mx_M E n 98 [.inr (.inr (a0, 0)), .inl (.int a1), .inr (.inr (a2, 0)), .inl (.int a3)] h Q := by
  cases n with
  | zero => exact mx_L.zero
  | succ n => exact sl98_0 (x_use (x_eq (K := (xK_ip Q h)) (f98_eq a0 a1 a2 a3 h) hK) (fun hK => (fun _ => (fun _ => (x_ite hK (fun hK => (fun _ => hK)) (fun hK => (fun _ => (fun _ => (x_ite hK (fun hK => (fun _ => hK)) (fun hK => (fun _ => (fun _ => (x_ite hK (fun hK => (fun _ => hK)) (fun hK => (fun _ => (fun _ => (x_ite hK (fun hK => (fun _ => hK)) (fun hK => (fun _ => hK)))))))))))))))))))
noncomputable def b99 : ((Int32 × Int32 × Int32 × mx_H)) → ((Int32 × Int32 × Int32 × mx_H)) ⊕ (Int32)
  | (a1, a2, a3, h) => (if a1 ≤ a3 then (Sum.inr (1 : Int32)) else (if (h.2.1 (.inl 37) (Int32.toNatClampNeg a3)) = a2 then (Sum.inr (0 : Int32)) else (if (f27 2 a3 a1 h) = (f27 3 (h.2.1 (.inl 37) (Int32.toNatClampNeg a3)) a2 h) then (Sum.inl (a1, a2, (a3 + 1), h)) else (Sum.inr (0 : Int32)))))
noncomputable def g99_2 (a1 : Int32) (a2 : Int32) (a3 : Int32) (h : mx_H) : Int32 := ml_wh b99 (a1, a2, a3, h)
theorem g99_2_eq (a1 : Int32) (a2 : Int32) (a3 : Int32) (h : mx_H) : g99_2 a1 a2 a3 h = (if a1 ≤ a3 then (1 : Int32) else (if (h.2.1 (.inl 37) (Int32.toNatClampNeg a3)) = a2 then (0 : Int32) else (if (f27 2 a3 a1 h) = (f27 3 (h.2.1 (.inl 37) (Int32.toNatClampNeg a3)) a2 h) then (g99_2 a1 a2 (a3 + 1) h) else (0 : Int32)))) := by
  unfold g99_2
  rw [ml_wh_eq]
  simp only [b99, ml_go_ite, ml_go_l, ml_go_r, ml_go_opt, ml_go_let, ml_go_h, ml_go_val]
  try rfl
noncomputable def f99 (a1 : Int32) (a2 : Int32) (h : mx_H) : Int32 := x_box (g99_2 a1 a2 0 h)
theorem f99_eq (a1 : Int32) (a2 : Int32) (h : mx_H) : f99 a1 a2 h = (g99_2 a1 a2 0 h) := x_box_eq _
theorem xw99 {E : mx_Ev} {Q : Option mx_V → mx_H → Prop} : ∀ n : Nat, (∀ (a1 : Int32) (a2 : Int32) (a3 : Int32) (h : mx_H), (xK_ip Q h) (g99_2 a1 a2 a3 h) → mx_L E n 99 2 [(0, .inr (.inl 35)), (1, .inl (.int a1)), (2, .inl (.int a2)), (3, .inl (.int a3))] [] h Q)
  | 0 => fun _ _ _ _ _ => mx_L.zero
  | n + 1 => fun a1 a2 a3 h hK => sl99_2 (x_use (x_eq (K := (xK_ip Q h)) (g99_2_eq a1 a2 a3 h) hK) (fun hK => (x_ite hK (fun hK => (fun _ => hK)) (fun hK => (fun _ => (x_ite hK (fun hK => (fun _ => hK)) (fun hK => (x27 (xh_i (fun _ => (x27 (xh_i (x_ite hK (fun hK => ((xw99 n) _ _ _ _ hK)) (fun hK => (fun _ => hK)))))))))))))))
theorem x99 {E : mx_Ev} {n : Nat} {h : mx_H} {Q : Option mx_V → mx_H → Prop} {a1 : Int32} {a2 : Int32} (hK : (xK_ip Q h) (f99 a1 a2 h)) : mx_M E n 99 [.inr (.inl 35), .inl (.int a1), .inl (.int a2)] h Q := by
  cases n with
  | zero => exact mx_L.zero
  | succ n => exact sl99_0 (x_use (x_eq (K := (xK_ip Q h)) (f99_eq a1 a2 h) hK) (fun hK => ((xw99 n) _ _ _ _ hK)))
noncomputable def b100 : ((Int32 × Int32 × Int32 × mx_H)) → ((Int32 × Int32 × Int32 × mx_H)) ⊕ (mx_H)
  | (a1, a2, a3, h) => (if a1 ≤ a3 then (if (h.2.1 (.inl 35) 0) ≠ 0 then (Sum.inr (mx_uI h (.inl 35) 0 ((h.2.1 (.inl 35) 0) + 1))) else (Sum.inr (mx_uI (mx_uI h (.inl 35) 1 a2) (.inl 35) 0 (((mx_uI h (.inl 35) 1 a2).2.1 (.inl 35) 0) + 1)))) else (Sum.inl (a1, ((10 * a2) + (h.2.1 (.inl 37) (Int32.toNatClampNeg a3))), (a3 + 1), mx_uI h (.inl 36) (Int32.toNatClampNeg a3) ((h.2.1 (.inl 36) (Int32.toNatClampNeg a3)) ||| (1 <<< ((h.2.1 (.inl 37) (Int32.toNatClampNeg a3)) &&& 31))))))
noncomputable def g100_4 (a1 : Int32) (a2 : Int32) (a3 : Int32) (h : mx_H) : mx_H := ml_wh b100 (a1, a2, a3, h)
theorem g100_4_eq (a1 : Int32) (a2 : Int32) (a3 : Int32) (h : mx_H) : g100_4 a1 a2 a3 h = (if a1 ≤ a3 then (if (h.2.1 (.inl 35) 0) ≠ 0 then (mx_uI h (.inl 35) 0 ((h.2.1 (.inl 35) 0) + 1)) else (mx_uI (mx_uI h (.inl 35) 1 a2) (.inl 35) 0 (((mx_uI h (.inl 35) 1 a2).2.1 (.inl 35) 0) + 1))) else (g100_4 a1 ((10 * a2) + (h.2.1 (.inl 37) (Int32.toNatClampNeg a3))) (a3 + 1) (mx_uI h (.inl 36) (Int32.toNatClampNeg a3) ((h.2.1 (.inl 36) (Int32.toNatClampNeg a3)) ||| (1 <<< ((h.2.1 (.inl 37) (Int32.toNatClampNeg a3)) &&& 31)))))) := by
  unfold g100_4
  rw [ml_wh_eq]
  simp only [b100, ml_go_ite, ml_go_l, ml_go_r, ml_go_opt, ml_go_let, ml_go_h, ml_go_val]
  try rfl
noncomputable def f100 (a1 : Int32) (h : mx_H) : mx_H := x_box (g100_4 a1 0 0 h)
theorem f100_eq (a1 : Int32) (h : mx_H) : f100 a1 h = (g100_4 a1 0 0 h) := x_box_eq _
theorem xw100 {E : mx_Ev} {Q : Option mx_V → mx_H → Prop} : ∀ n : Nat, (∀ (a1 : Int32) (a2 : Int32) (a3 : Int32) (h : mx_H), (xK_v Q) (g100_4 a1 a2 a3 h) → mx_L E n 100 4 [(0, .inr (.inl 35)), (1, .inl (.int a1)), (2, .inl (.int a2)), (3, .inl (.int a3))] [] h Q)
  | 0 => fun _ _ _ _ _ => mx_L.zero
  | n + 1 => fun a1 a2 a3 h hK => sl100_4 (x_use (x_eq (K := (xK_v Q)) (g100_4_eq a1 a2 a3 h) hK) (fun hK => (x_ite hK (fun hK => (x_ite hK (fun hK => hK) (fun hK => hK))) (fun hK => (fun _ => (fun _ => (fun _ => (fun _ => ((xw100 n) _ _ _ _ hK)))))))))
theorem x100 {E : mx_Ev} {n : Nat} {h : mx_H} {Q : Option mx_V → mx_H → Prop} {a1 : Int32} (hK : (xK_v Q) (f100 a1 h)) : mx_M E n 100 [.inr (.inl 35), .inl (.int a1)] h Q := by
  cases n with
  | zero => exact mx_L.zero
  | succ n => exact sl100_0 (x_use (x_eq (K := (xK_v Q)) (f100_eq a1 h) hK) (fun hK => ((xw100 n) _ _ _ _ hK)))
noncomputable def f102 (a1 : Int32) (a2 : Int32) (h : mx_H) : Int32 × mx_H := x_box (if (f157 a1 1 4) ≠ 0 then (if ((h.2.1 (.inl 1) 1) + a1) ≤ 120 then (x_h (f85 a1 a2 h) (fun h5 => ((h5.2.1 (.inl 1) 1 : Int32), h5))) else (((-3) : Int32), h)) else (((-1) : Int32), h))
theorem f102_eq (a1 : Int32) (a2 : Int32) (h : mx_H) : f102 a1 a2 h = (if (f157 a1 1 4) ≠ 0 then (if ((h.2.1 (.inl 1) 1) + a1) ≤ 120 then (x_h (f85 a1 a2 h) (fun h5 => ((h5.2.1 (.inl 1) 1 : Int32), h5))) else (((-3) : Int32), h)) else (((-1) : Int32), h)) := x_box_eq _
theorem x102 {E : mx_Ev} {n : Nat} {h : mx_H} {Q : Option mx_V → mx_H → Prop} {a1 : Int32} {a2 : Int32} (hK : (xK_i Q) (f102 a1 a2 h)) : mx_M E n 102 [.inr (.inl 0), .inl (.int a1), .inl (.int a2)] h Q := by
  cases n with
  | zero => exact mx_L.zero
  | succ n => exact sl102_0 (x_use (x_eq (K := (xK_i Q)) (f102_eq a1 a2 h) hK) (fun hK => (x157 (xh_i (x_ite hK (fun hK => (x_ite hK (fun hK => (x85 (xh_n (x_hk hK (fun hK => hK))))) (fun hK => hK))) (fun hK => hK))))))
noncomputable def f168 (a1 : Int32) (h : mx_H) : Int32 := x_box (if 12 ≤ (h.2.1 (.inl 0) 2) then (1 : Int32) else (if ((h.2.1 (.inl 90) 0) + a1) ≤ 200 then (0 : Int32) else (1 : Int32)))
theorem f168_eq (a1 : Int32) (h : mx_H) : f168 a1 h = (if 12 ≤ (h.2.1 (.inl 0) 2) then (1 : Int32) else (if ((h.2.1 (.inl 90) 0) + a1) ≤ 200 then (0 : Int32) else (1 : Int32))) := x_box_eq _
theorem x168 {E : mx_Ev} {n : Nat} {h : mx_H} {Q : Option mx_V → mx_H → Prop} {a1 : Int32} (hK : (xK_ip Q h) (f168 a1 h)) : mx_M E n 168 [.inr (.inl 0), .inl (.int a1)] h Q := by
  cases n with
  | zero => exact mx_L.zero
  | succ n => exact sl168_0 (x_use (x_eq (K := (xK_ip Q h)) (f168_eq a1 h) hK) (fun hK => (x_ite hK (fun hK => (fun _ => hK)) (fun hK => (x_ite hK (fun hK => (fun _ => hK)) (fun hK => (fun _ => hK)))))))
noncomputable def f166 (a1 : Int32) (h : mx_H) : Option Nat := x_box (if (f157 a1 0 ((h.2.1 (.inl 0) 2) - 1)) = 0 then none else (x_opt (ml_sn (h.2.2.2 (.inl 3) (Int32.toNatClampNeg a1))) (fun j4 => (some j4)) none))
theorem f166_eq (a1 : Int32) (h : mx_H) : f166 a1 h = (if (f157 a1 0 ((h.2.1 (.inl 0) 2) - 1)) = 0 then none else (x_opt (ml_sn (h.2.2.2 (.inl 3) (Int32.toNatClampNeg a1))) (fun j4 => (some j4)) none)) := x_box_eq _
theorem x166 {E : mx_Ev} {n : Nat} {h : mx_H} {Q : Option mx_V → mx_H → Prop} {a1 : Int32} (hK : (xK_op Q h) (f166 a1 h)) : mx_M E n 166 [.inr (.inl 0), .inl (.int a1)] h Q := by
  cases n with
  | zero => exact mx_L.zero
  | succ n => exact sl166_0 (x_use (x_eq (K := (xK_op Q h)) (f166_eq a1 h) hK) (fun hK => (x157 (xh_i (x_ite hK (fun hK => hK) (fun hK => (fun _ => (x_ref hK (fun j4 hK => hK) (fun hK => hK)))))))))
noncomputable def b104 : ((Int32 × Nat × mx_H) ⊕ (Int32 × Nat × mx_H) ⊕ (Int32 × Nat × mx_H) ⊕ (Int32 × Nat × mx_H) ⊕ (mx_H)) → ((Int32 × Nat × mx_H) ⊕ (Int32 × Nat × mx_H) ⊕ (Int32 × Nat × mx_H) ⊕ (Int32 × Nat × mx_H) ⊕ (mx_H)) ⊕ (Int32)
  | (.inl (a2, a3, h)) => (Sum.inr (h.2.1 (.inr (a3, 1)) (Int32.toNatClampNeg (a2 - a2 / 10 * 10)) : Int32))
  | (.inr (.inl (a2, a3, h))) => (Sum.inr (h.2.1 (.inr (a3, 2)) (Int32.toNatClampNeg (a2 - a2 / 10 * 10)) : Int32))
  | (.inr (.inr (.inl (a2, a3, h)))) => (Sum.inr (h.2.1 (.inr (a3, 3)) (Int32.toNatClampNeg (a2 - a2 / 10 * 10)) : Int32))
  | (.inr (.inr (.inr (.inl (a2, a3, h))))) => (Sum.inr (h.2.1 (.inr (a3, 4)) (Int32.toNatClampNeg (a2 - a2 / 10 * 10)) : Int32))
  | (.inr (.inr (.inr (.inr h)))) => (Sum.inr ((-2000000000) : Int32))
noncomputable def g104_96 (a2 : Int32) (a3 : Nat) (h : mx_H) : Int32 := ml_wh b104 (.inl (a2, a3, h))
noncomputable def g104_106 (a2 : Int32) (a3 : Nat) (h : mx_H) : Int32 := ml_wh b104 (.inr (.inl (a2, a3, h)))
noncomputable def g104_116 (a2 : Int32) (a3 : Nat) (h : mx_H) : Int32 := ml_wh b104 (.inr (.inr (.inl (a2, a3, h))))
noncomputable def g104_126 (a2 : Int32) (a3 : Nat) (h : mx_H) : Int32 := ml_wh b104 (.inr (.inr (.inr (.inl (a2, a3, h)))))
noncomputable def g104_136  (h : mx_H) : Int32 := ml_wh b104 (.inr (.inr (.inr (.inr h))))
noncomputable def f104 (a1 : Int32) (a2 : Int32) (h : mx_H) : Int32 := x_box (x_opt (f166 a1 h) (fun j3 => (if a2 ≠ 0 then (if a2 ≠ 1 then (if a2 ≠ 2 then (if a2 < 10 then ((-2000000000) : Int32) else (if (a2 - a2 / 10 * 10) < (h.2.1 (.inr (j3, 0)) 0) then (if (a2 / 10) = 1 then (g104_96 a2 j3 h) else (if (a2 / 10) = 2 then (g104_106 a2 j3 h) else (if (a2 / 10) = 3 then (g104_116 a2 j3 h) else (if (a2 / 10) = 4 then (g104_126 a2 j3 h) else (g104_136  h))))) else ((-2000000000) : Int32))) else ((f60 j3 h) : Int32)) else (h.2.1 (.inr (j3, 0)) 6 : Int32)) else (h.2.1 (.inr (j3, 0)) 0 : Int32))) ((-2000000000) : Int32))
noncomputable def f164 (a0 : Nat) (a1 : Int32) (h : mx_H) : Int32 := x_box (if (f157 a1 0 ((h.2.1 (.inr (a0, 0)) 0) - 1)) = 0 then (0 : Int32) else (1 : Int32))
theorem f164_eq (a0 : Nat) (a1 : Int32) (h : mx_H) : f164 a0 a1 h = (if (f157 a1 0 ((h.2.1 (.inr (a0, 0)) 0) - 1)) = 0 then (0 : Int32) else (1 : Int32)) := x_box_eq _
theorem x164 {E : mx_Ev} {n : Nat} {h : mx_H} {Q : Option mx_V → mx_H → Prop} {a0 : Nat} {a1 : Int32} (hK : (xK_ip Q h) (f164 a0 a1 h)) : mx_M E n 164 [.inr (.inr (a0, 0)), .inl (.int a1)] h Q := by
  cases n with
  | zero => exact mx_L.zero
  | succ n => exact sl164_0 (x_use (x_eq (K := (xK_ip Q h)) (f164_eq a0 a1 h) hK) (fun hK => (x157 (xh_i (x_ite hK (fun hK => (fun _ => hK)) (fun hK => (fun _ => hK)))))))
noncomputable def f164_null (a1 : Int32) (h : mx_H) : Int32 := x_box (0 : Int32)
theorem f164_null_eq (a1 : Int32) (h : mx_H) : f164_null a1 h = (0 : Int32) := x_box_eq _
theorem x164_null {E : mx_Ev} {n : Nat} {h : mx_H} {Q : Option mx_V → mx_H → Prop} {a1 : Int32} (hK : (xK_ip Q h) (f164_null a1 h)) : mx_M E n 164 [.inl .null, .inl (.int a1)] h Q := by
  cases n with
  | zero => exact mx_L.zero
  | succ n => exact sl164_null_0 (x_use (x_eq (K := (xK_ip Q h)) (f164_null_eq a1 h) hK) (fun hK => (fun _ => hK)))
noncomputable def f105 (a1 : Int32) (a2 : Int32) (a3 : Int32) (a4 : Int32) (h : mx_H) : Int32 := x_box (x_opt (f166 a1 h) (fun j3 => (if (f164 j3 a2 h) = 0 then ((-1) : Int32) else (if (f164 j3 a3 h) = 0 then ((-1) : Int32) else (if (f157 a4 0 2) ≠ 0 then (x_val (f61 j3 a2 a3 h) (fun x15 => (if 0 ≤ x15 then (if a4 ≠ 0 then (if a4 ≠ 1 then (h.2.1 (.inr (j3, 8)) (Int32.toNatClampNeg x15) : Int32) else (h.2.1 (.inr (j3, 7)) (Int32.toNatClampNeg x15) : Int32)) else ((h.2.1 (.inr (j3, 0)) 5) + x15 : Int32)) else ((-2) : Int32)))) else ((-1) : Int32))))) ((-1) : Int32))
noncomputable def f170 (a1 : Nat) (a2 : Int32) (a3 : Int32) (a4 : Int32) (h : mx_H) : Int32 × mx_H := x_box (x_val (f66 a1 a2 a3 h) (fun x3 => (if x3 = a4 then ((x3 : Int32), h) else (x_h (f67 a1 a2 a3 a4 h) (fun h5 => (x_h (f17 a1 a2 a3 x3 a4 h5) (fun h7 => ((x3 : Int32), h7))))))))
theorem f170_eq (a1 : Nat) (a2 : Int32) (a3 : Int32) (a4 : Int32) (h : mx_H) : f170 a1 a2 a3 a4 h = (x_val (f66 a1 a2 a3 h) (fun x3 => (if x3 = a4 then ((x3 : Int32), h) else (x_h (f67 a1 a2 a3 a4 h) (fun h5 => (x_h (f17 a1 a2 a3 x3 a4 h5) (fun h7 => ((x3 : Int32), h7)))))))) := x_box_eq _
theorem x170 {E : mx_Ev} {n : Nat} {h : mx_H} {Q : Option mx_V → mx_H → Prop} {a1 : Nat} {a2 : Int32} {a3 : Int32} {a4 : Int32} (hK : (xK_i Q) (f170 a1 a2 a3 a4 h)) : mx_M E n 170 [.inr (.inl 0), .inr (.inr (a1, 0)), .inl (.int a2), .inl (.int a3), .inl (.int a4)] h Q := by
  cases n with
  | zero => exact mx_L.zero
  | succ n => exact sl170_0 (x_use (x_eq (K := (xK_i Q)) (f170_eq a1 a2 a3 a4 h) hK) (fun hK => (x66 (xh_i (x_valk hK (fun hK => (x_ite hK (fun hK => hK) (fun hK => (x67 (xh_n (x_hk hK (fun hK => (x17 (xh_n (x_hk hK (fun hK => hK))))))))))))))))
noncomputable def f106 (a1 : Int32) (a2 : Int32) (a3 : Int32) (a4 : Int32) (h : mx_H) : Int32 × mx_H := x_box (x_opt (f166 a1 h) (fun j3 => (if (f164 j3 a2 h) = 0 then (((-1) : Int32), h) else (if (f157 a3 0 2) ≠ 0 then (if a3 ≠ 2 then (if (f157 a4 0 9) ≠ 0 then (x_let (f170 j3 a3 a2 a4 h) (fun x15 h14 => ((x15 : Int32), h14))) else (((-1) : Int32), h)) else (if (f157 a4 0 1) ≠ 0 then (x_let (f170 j3 a3 a2 a4 h) (fun x21 h20 => ((x21 : Int32), h20))) else (((-1) : Int32), h))) else (((-1) : Int32), h)))) (((-1) : Int32), h))
theorem f106_eq (a1 : Int32) (a2 : Int32) (a3 : Int32) (a4 : Int32) (h : mx_H) : f106 a1 a2 a3 a4 h = (x_opt (f166 a1 h) (fun j3 => (if (f164 j3 a2 h) = 0 then (((-1) : Int32), h) else (if (f157 a3 0 2) ≠ 0 then (if a3 ≠ 2 then (if (f157 a4 0 9) ≠ 0 then (x_let (f170 j3 a3 a2 a4 h) (fun x15 h14 => ((x15 : Int32), h14))) else (((-1) : Int32), h)) else (if (f157 a4 0 1) ≠ 0 then (x_let (f170 j3 a3 a2 a4 h) (fun x21 h20 => ((x21 : Int32), h20))) else (((-1) : Int32), h))) else (((-1) : Int32), h)))) (((-1) : Int32), h)) := x_box_eq _
theorem x106 {E : mx_Ev} {n : Nat} {h : mx_H} {Q : Option mx_V → mx_H → Prop} {a1 : Int32} {a2 : Int32} {a3 : Int32} {a4 : Int32} (hK : (xK_i Q) (f106 a1 a2 a3 a4 h)) : mx_M E n 106 [.inr (.inl 0), .inl (.int a1), .inl (.int a2), .inl (.int a3), .inl (.int a4)] h Q := by
  cases n with
  | zero => exact mx_L.zero
  | succ n => exact sl106_0 (x_use (x_eq (K := (xK_i Q)) (f106_eq a1 a2 a3 a4 h) hK) (fun hK => (x166 (x_ov hK (fun j3 hK => (x164 (xh_i (x_ite hK (fun hK => hK) (fun hK => (x157 (xh_i (x_ite hK (fun hK => (x_ite hK (fun hK => (x157 (xh_i (x_ite hK (fun hK => (x170 (xh_i (x_letk hK (fun hK => hK))))) (fun hK => hK))))) (fun hK => (x157 (xh_i (x_ite hK (fun hK => (x170 (xh_i (x_letk hK (fun hK => hK))))) (fun hK => hK))))))) (fun hK => hK))))))))) (fun hK => (x164_null (xh_i ⟨fun _ => hK, fun q => absurd (f164_null_eq _ _) q⟩)))))))
noncomputable def f107 (a1 : Int32) (a2 : Int32) (a3 : Int32) (a4 : Int32) (h : mx_H) : Int32 × mx_H := x_box (x_opt (f166 a1 h) (fun j3 => (if (f164 j3 a2 h) = 0 then (((-1) : Int32), h) else (if (f164 j3 a3 h) = 0 then (((-1) : Int32), h) else (if (f157 a4 0 9) ≠ 0 then (x_val (f61 j3 a2 a3 h) (fun x15 => (if 0 ≤ x15 then (if a4 ≤ (h.2.1 (.inr (j3, 7)) (Int32.toNatClampNeg x15)) then (x_let (f170 j3 4 x15 (f65 (h.2.1 (.inr (j3, 7)) (Int32.toNatClampNeg x15)) a4) h) (fun x21 h20 => ((x21 - x21 / 10 * 10 : Int32), h20))) else (((-1) : Int32), h)) else (((-2) : Int32), h)))) else (((-1) : Int32), h))))) (((-1) : Int32), h))
theorem f107_eq (a1 : Int32) (a2 : Int32) (a3 : Int32) (a4 : Int32) (h : mx_H) : f107 a1 a2 a3 a4 h = (x_opt (f166 a1 h) (fun j3 => (if (f164 j3 a2 h) = 0 then (((-1) : Int32), h) else (if (f164 j3 a3 h) = 0 then (((-1) : Int32), h) else (if (f157 a4 0 9) ≠ 0 then (x_val (f61 j3 a2 a3 h) (fun x15 => (if 0 ≤ x15 then (if a4 ≤ (h.2.1 (.inr (j3, 7)) (Int32.toNatClampNeg x15)) then (x_let (f170 j3 4 x15 (f65 (h.2.1 (.inr (j3, 7)) (Int32.toNatClampNeg x15)) a4) h) (fun x21 h20 => ((x21 - x21 / 10 * 10 : Int32), h20))) else (((-1) : Int32), h)) else (((-2) : Int32), h)))) else (((-1) : Int32), h))))) (((-1) : Int32), h)) := x_box_eq _
theorem x107 {E : mx_Ev} {n : Nat} {h : mx_H} {Q : Option mx_V → mx_H → Prop} {a1 : Int32} {a2 : Int32} {a3 : Int32} {a4 : Int32} (hK : (xK_i Q) (f107 a1 a2 a3 a4 h)) : mx_M E n 107 [.inr (.inl 0), .inl (.int a1), .inl (.int a2), .inl (.int a3), .inl (.int a4)] h Q := by
  cases n with
  | zero => exact mx_L.zero
  | succ n => exact sl107_0 (x_use (x_eq (K := (xK_i Q)) (f107_eq a1 a2 a3 a4 h) hK) (fun hK => (x166 (x_ov hK (fun j3 hK => (x164 (xh_i (x_ite hK (fun hK => hK) (fun hK => (x164 (xh_i (x_ite hK (fun hK => hK) (fun hK => (x157 (xh_i (x_ite hK (fun hK => (x61 (xh_i (x_valk hK (fun hK => (x_ite hK (fun hK => (fun _ => (x_ite hK (fun hK => (fun _ => (x65 (xh_i (x170 (xh_i (x_letk hK (fun hK => (fun _ => hK))))))))) (fun hK => hK)))) (fun hK => hK))))))) (fun hK => hK))))))))))))) (fun hK => (x164_null (xh_i ⟨fun _ => hK, fun q => absurd (f164_null_eq _ _) q⟩)))))))
/-! ===== methods as functions (10ze.x2) ===== -/
noncomputable def f108 (a1 : Int32) (a2 : Int32) (a3 : Int32) (h : mx_H) : Int32 × mx_H := x_box (x_opt (f166 a1 h) (fun j3 => (if (f164 j3 a2 h) = 0 then (((-1) : Int32), h) else (if a3 = (-1) then (if a3 ≠ (-1) then (x_val (f61 j3 a2 a3 h) (fun x9 => (if 0 ≤ x9 then (if 1 ≤ ((h.2.1 (.inr (j3, 7)) (Int32.toNatClampNeg x9)) - 1) then (x_let (f170 j3 4 x9 (f65 ((h.2.1 (.inr (j3, 7)) (Int32.toNatClampNeg x9)) - 1) (if ((h.2.1 (.inr (j3, 7)) (Int32.toNatClampNeg x9)) - 1) < (h.2.1 (.inr (j3, 8)) (Int32.toNatClampNeg x9)) then ((h.2.1 (.inr (j3, 7)) (Int32.toNatClampNeg x9)) - 1) else (h.2.1 (.inr (j3, 8)) (Int32.toNatClampNeg x9)))) h) (fun x15 h14 => (((h.2.1 (.inr (j3, 7)) (Int32.toNatClampNeg x9)) - 1 : Int32), h14))) else (((-4) : Int32), h)) else (((-2) : Int32), h)))) else (if 1 < (h.2.1 (.inr (j3, 1)) (Int32.toNatClampNeg a2)) then (x_let (f170 j3 3 a2 ((h.2.1 (.inr (j3, 1)) (Int32.toNatClampNeg a2)) - 1) h) (fun x18 h17 => ((h17.2.1 (.inr (j3, 1)) (Int32.toNatClampNeg a2) : Int32), h17))) else (((-4) : Int32), h))) else (if (f164 j3 a3 h) ≠ 0 then (if a3 ≠ (-1) then (x_val (f61 j3 a2 a3 h) (fun x24 => (if 0 ≤ x24 then (if 1 ≤ ((h.2.1 (.inr (j3, 7)) (Int32.toNatClampNeg x24)) - 1) then (x_let (f170 j3 4 x24 (f65 ((h.2.1 (.inr (j3, 7)) (Int32.toNatClampNeg x24)) - 1) (if ((h.2.1 (.inr (j3, 7)) (Int32.toNatClampNeg x24)) - 1) < (h.2.1 (.inr (j3, 8)) (Int32.toNatClampNeg x24)) then ((h.2.1 (.inr (j3, 7)) (Int32.toNatClampNeg x24)) - 1) else (h.2.1 (.inr (j3, 8)) (Int32.toNatClampNeg x24)))) h) (fun x30 h29 => (((h.2.1 (.inr (j3, 7)) (Int32.toNatClampNeg x24)) - 1 : Int32), h29))) else (((-4) : Int32), h)) else (((-2) : Int32), h)))) else (if 1 < (h.2.1 (.inr (j3, 1)) (Int32.toNatClampNeg a2)) then (x_let (f170 j3 3 a2 ((h.2.1 (.inr (j3, 1)) (Int32.toNatClampNeg a2)) - 1) h) (fun x33 h32 => ((h32.2.1 (.inr (j3, 1)) (Int32.toNatClampNeg a2) : Int32), h32))) else (((-4) : Int32), h))) else (((-1) : Int32), h))))) (((-1) : Int32), h))
theorem f108_eq (a1 : Int32) (a2 : Int32) (a3 : Int32) (h : mx_H) : f108 a1 a2 a3 h = (x_opt (f166 a1 h) (fun j3 => (if (f164 j3 a2 h) = 0 then (((-1) : Int32), h) else (if a3 = (-1) then (if a3 ≠ (-1) then (x_val (f61 j3 a2 a3 h) (fun x9 => (if 0 ≤ x9 then (if 1 ≤ ((h.2.1 (.inr (j3, 7)) (Int32.toNatClampNeg x9)) - 1) then (x_let (f170 j3 4 x9 (f65 ((h.2.1 (.inr (j3, 7)) (Int32.toNatClampNeg x9)) - 1) (if ((h.2.1 (.inr (j3, 7)) (Int32.toNatClampNeg x9)) - 1) < (h.2.1 (.inr (j3, 8)) (Int32.toNatClampNeg x9)) then ((h.2.1 (.inr (j3, 7)) (Int32.toNatClampNeg x9)) - 1) else (h.2.1 (.inr (j3, 8)) (Int32.toNatClampNeg x9)))) h) (fun x15 h14 => (((h.2.1 (.inr (j3, 7)) (Int32.toNatClampNeg x9)) - 1 : Int32), h14))) else (((-4) : Int32), h)) else (((-2) : Int32), h)))) else (if 1 < (h.2.1 (.inr (j3, 1)) (Int32.toNatClampNeg a2)) then (x_let (f170 j3 3 a2 ((h.2.1 (.inr (j3, 1)) (Int32.toNatClampNeg a2)) - 1) h) (fun x18 h17 => ((h17.2.1 (.inr (j3, 1)) (Int32.toNatClampNeg a2) : Int32), h17))) else (((-4) : Int32), h))) else (if (f164 j3 a3 h) ≠ 0 then (if a3 ≠ (-1) then (x_val (f61 j3 a2 a3 h) (fun x24 => (if 0 ≤ x24 then (if 1 ≤ ((h.2.1 (.inr (j3, 7)) (Int32.toNatClampNeg x24)) - 1) then (x_let (f170 j3 4 x24 (f65 ((h.2.1 (.inr (j3, 7)) (Int32.toNatClampNeg x24)) - 1) (if ((h.2.1 (.inr (j3, 7)) (Int32.toNatClampNeg x24)) - 1) < (h.2.1 (.inr (j3, 8)) (Int32.toNatClampNeg x24)) then ((h.2.1 (.inr (j3, 7)) (Int32.toNatClampNeg x24)) - 1) else (h.2.1 (.inr (j3, 8)) (Int32.toNatClampNeg x24)))) h) (fun x30 h29 => (((h.2.1 (.inr (j3, 7)) (Int32.toNatClampNeg x24)) - 1 : Int32), h29))) else (((-4) : Int32), h)) else (((-2) : Int32), h)))) else (if 1 < (h.2.1 (.inr (j3, 1)) (Int32.toNatClampNeg a2)) then (x_let (f170 j3 3 a2 ((h.2.1 (.inr (j3, 1)) (Int32.toNatClampNeg a2)) - 1) h) (fun x33 h32 => ((h32.2.1 (.inr (j3, 1)) (Int32.toNatClampNeg a2) : Int32), h32))) else (((-4) : Int32), h))) else (((-1) : Int32), h))))) (((-1) : Int32), h)) := x_box_eq _
theorem x108 {E : mx_Ev} {n : Nat} {h : mx_H} {Q : Option mx_V → mx_H → Prop} {a1 : Int32} {a2 : Int32} {a3 : Int32} (hK : (xK_i Q) (f108 a1 a2 a3 h)) : mx_M E n 108 [.inr (.inl 0), .inl (.int a1), .inl (.int a2), .inl (.int a3)] h Q := by
  cases n with
  | zero => exact mx_L.zero
  | succ n => exact sl108_0 (x_use (x_eq (K := (xK_i Q)) (f108_eq a1 a2 a3 h) hK) (fun hK => (x166 (x_ov hK (fun j3 hK => (x164 (xh_i (x_ite hK (fun hK => hK) (fun hK => (x_ite hK (fun hK => (x_ite hK (fun hK => (x61 (xh_i (x_valk hK (fun hK => (x_ite hK (fun hK => (fun _ => (x_ite hK (fun hK => (fun _ => (x65 (xh_i (x170 (xh_i (x_letk hK (fun hK => hK)))))))) (fun hK => hK)))) (fun hK => hK))))))) (fun hK => (fun _ => (x_ite hK (fun hK => (fun _ => (x170 (xh_i (x_letk hK (fun hK => (fun _ => hK))))))) (fun hK => hK)))))) (fun hK => (x164 (xh_i (x_ite hK (fun hK => (x_ite hK (fun hK => (x61 (xh_i (x_valk hK (fun hK => (x_ite hK (fun hK => (fun _ => (x_ite hK (fun hK => (fun _ => (x65 (xh_i (x170 (xh_i (x_letk hK (fun hK => hK)))))))) (fun hK => hK)))) (fun hK => hK))))))) (fun hK => (fun _ => (x_ite hK (fun hK => (fun _ => (x170 (xh_i (x_letk hK (fun hK => (fun _ => hK))))))) (fun hK => hK)))))) (fun hK => hK))))))))))) (fun hK => (x164_null (xh_i ⟨fun _ => hK, fun q => absurd (f164_null_eq _ _) q⟩)))))))
noncomputable def f158 (a0 : Int32) : Int32 := x_box (if (f157 a0 1 999) = 0 then (0 : Int32) else (if (a0 - a0 / 10 * 10) = 0 then (0 : Int32) else (1 : Int32)))
noncomputable def f109 (a1 : Int32) (a2 : Int32) (a3 : Int32) (h : mx_H) : Int32 × mx_H := x_box (x_opt (f166 a1 h) (fun j3 => (if (f158 a2) = 0 then (((-1) : Int32), h) else (if (f157 a3 0 1) ≠ 0 then (x_h (f22 0 j3 h) (fun h11 => (if a3 ≠ 0 then (x_let (f32 0 (a2 / 10) (a2 - a2 / 10 * 10) h11) (fun x14 h13 => ((x14 : Int32), h13))) else (x_let (f31 0 (a2 / 10) (a2 - a2 / 10 * 10) h11) (fun x17 h16 => ((x17 : Int32), h16)))))) else (((-1) : Int32), h)))) (((-1) : Int32), h))
noncomputable def f110 (a1 : Int32) (a2 : Int32) (a3 : Int32) (h : mx_H) : Int64 × mx_H := x_box (x_opt (f166 a1 h) (fun j3 => (if (f158 a2) = 0 then (((-9223372036854775808) : Int64), h) else (if (f157 a3 0 (f60 j3 h)) ≠ 0 then (x_h (f22 0 j3 h) (fun h14 => (x_h (f29 0 (a2 / 10) (a2 - a2 / 10 * 10) h14) (fun h16 => ((h16.2.2.1 (.inr (0, 35)) (Int32.toNatClampNeg a3) : Int64), h16))))) else (((-9223372036854775808) : Int64), h)))) (((-9223372036854775808) : Int64), h))
noncomputable def f165 (a0 : Nat) (a1 : Int32) (a2 : Int32) (h : mx_H) : Int32 := x_box (if (f157 a1 0 ((f60 a0 h) - 1)) = 0 then (0 : Int32) else (if (f157 a2 1 9) = 0 then (0 : Int32) else (1 : Int32)))
theorem f165_eq (a0 : Nat) (a1 : Int32) (a2 : Int32) (h : mx_H) : f165 a0 a1 a2 h = (if (f157 a1 0 ((f60 a0 h) - 1)) = 0 then (0 : Int32) else (if (f157 a2 1 9) = 0 then (0 : Int32) else (1 : Int32))) := x_box_eq _
theorem x165 {E : mx_Ev} {n : Nat} {h : mx_H} {Q : Option mx_V → mx_H → Prop} {a0 : Nat} {a1 : Int32} {a2 : Int32} (hK : (xK_ip Q h) (f165 a0 a1 a2 h)) : mx_M E n 165 [.inr (.inr (a0, 0)), .inl (.int a1), .inl (.int a2)] h Q := by
  cases n with
  | zero => exact mx_L.zero
  | succ n => exact sl165_0 (x_use (x_eq (K := (xK_ip Q h)) (f165_eq a0 a1 a2 h) hK) (fun hK => (x60 (xh_i (x157 (xh_i (x_ite hK (fun hK => (fun _ => hK)) (fun hK => (x157 (xh_i (x_ite hK (fun hK => (fun _ => hK)) (fun hK => (fun _ => hK)))))))))))))
noncomputable def f165_null (a1 : Int32) (a2 : Int32) (h : mx_H) : Int32 := x_box (0 : Int32)
theorem f165_null_eq (a1 : Int32) (a2 : Int32) (h : mx_H) : f165_null a1 a2 h = (0 : Int32) := x_box_eq _
theorem x165_null {E : mx_Ev} {n : Nat} {h : mx_H} {Q : Option mx_V → mx_H → Prop} {a1 : Int32} {a2 : Int32} (hK : (xK_ip Q h) (f165_null a1 a2 h)) : mx_M E n 165 [.inl .null, .inl (.int a1), .inl (.int a2)] h Q := by
  cases n with
  | zero => exact mx_L.zero
  | succ n => exact sl165_null_0 (x_use (x_eq (K := (xK_ip Q h)) (f165_null_eq a1 a2 h) hK) (fun hK => (fun _ => hK)))
noncomputable def f111 (a1 : Int32) (a2 : Int32) (a3 : Int32) (h : mx_H) : Int32 × mx_H := x_box (x_opt (f166 a1 h) (fun j3 => (if (f165 j3 a2 a3 h) ≠ 0 then (x_h (f22 0 j3 h) (fun h8 => (x_let (f33 0 a2 a3 h8) (fun x11 h10 => ((x11 : Int32), h10))))) else (((-1) : Int32), h))) (((-1) : Int32), h))
theorem f111_eq (a1 : Int32) (a2 : Int32) (a3 : Int32) (h : mx_H) : f111 a1 a2 a3 h = (x_opt (f166 a1 h) (fun j3 => (if (f165 j3 a2 a3 h) ≠ 0 then (x_h (f22 0 j3 h) (fun h8 => (x_let (f33 0 a2 a3 h8) (fun x11 h10 => ((x11 : Int32), h10))))) else (((-1) : Int32), h))) (((-1) : Int32), h)) := x_box_eq _
theorem x111 {E : mx_Ev} {n : Nat} {h : mx_H} {Q : Option mx_V → mx_H → Prop} {a1 : Int32} {a2 : Int32} {a3 : Int32} (hK : (xK_i Q) (f111 a1 a2 a3 h)) : mx_M E n 111 [.inr (.inl 0), .inl (.int a1), .inl (.int a2), .inl (.int a3)] h Q := by
  cases n with
  | zero => exact mx_L.zero
  | succ n => exact sl111_0 (x_use (x_eq (K := (xK_i Q)) (f111_eq a1 a2 a3 h) hK) (fun hK => (x166 (x_ov hK (fun j3 hK => (x165 (xh_i (x_ite hK (fun hK => (x22 (xh_n (x_hk hK (fun hK => (x33 (xh_i (x_letk hK (fun hK => hK))))))))) (fun hK => hK))))) (fun hK => (x165_null (xh_i ⟨fun q => absurd (f165_null_eq _ _ _) q, fun _ => hK⟩)))))))
noncomputable def f112 (a1 : Int32) (a2 : Int32) (a3 : Int32) (h : mx_H) : Int32 × mx_H := x_box (x_opt (f166 a1 h) (fun j3 => (if (f164 j3 a2 h) = 0 then (((-1) : Int32), h) else (if (f158 a3) = 0 then (((-1) : Int32), h) else (if (h.2.1 (.inr (j3, 4)) (Int32.toNatClampNeg a2)) = 0 then (x_h (f22 0 j3 h) (fun h11 => (x_let (f32 0 (a3 / 10) (a3 - a3 / 10 * 10) h11) (fun x14 h13 => (if x14 ≤ 0 then ((0 : Int32), mx_uI h13 (.inr (0, 33)) (Int32.toNatClampNeg a2) 1) else (x_let (f32 0 (a3 / 10) (a3 - a3 / 10 * 10) (mx_uI h13 (.inr (0, 33)) (Int32.toNatClampNeg a2) 1)) (fun x17 h16 => (if x17 < x14 then ((0 : Int32), h16) else ((1 : Int32), h16))))))))) else (((-1) : Int32), h))))) (((-1) : Int32), h))
noncomputable def b113 : ((Int32 × Nat × Int32 × Int32 × Int32 × mx_H)) → ((Int32 × Nat × Int32 × Int32 × Int32 × mx_H)) ⊕ (Int32 × mx_H)
  | (a3, a5, a7, a8, a9, h) => (if (f60 a5 h) ≤ a9 then (Sum.inr ((a8 : Int32), h)) else (x_let (f33 0 a9 a3 h) (fun x6 h5 => (if x6 ≠ a7 then (Sum.inl (a3, a5, a7, a8, (a9 + 1), h5)) else (x_let (f33 1 a9 a3 h5) (fun x9 h8 => (if x9 = a7 then (Sum.inl (a3, a5, a7, a8, (a9 + 1), h8)) else (Sum.inl (a3, a5, a7, (a8 + 1), (a9 + 1), h8)))))))))
noncomputable def g113_134 (a3 : Int32) (a5 : Nat) (a7 : Int32) (a8 : Int32) (a9 : Int32) (h : mx_H) : Int32 × mx_H := ml_wh b113 (a3, a5, a7, a8, a9, h)
noncomputable def f113 (a1 : Int32) (a2 : Int32) (a3 : Int32) (a4 : Int32) (h : mx_H) : Int32 × mx_H := x_box (x_opt (f166 a1 h) (fun j3 => (if (f165 j3 a2 a3 h) = 0 then (((-1) : Int32), h) else (if a4 < 0 then (((-1) : Int32), h) else (if (a4 - a4 / 10 * 10) = 0 then (((-1) : Int32), h) else (if (f164 j3 (a4 / 10) h) ≠ 0 then (if (h.2.1 (.inr (j3, 4)) (Int32.toNatClampNeg (a4 / 10))) ≠ 0 then (((-4) : Int32), h) else (if (h.2.1 (.inr (j3, 3)) (Int32.toNatClampNeg (a4 / 10))) = 0 then (x_h (f22 0 j3 h) (fun h11 => (x_h (f22 1 j3 h11) (fun h13 => (x_h (f25 1 (a4 / 10) (h13.2.1 (.inr (j3, 1)) (Int32.toNatClampNeg (a4 / 10))) (a4 - a4 / 10 * 10) h13) (fun h15 => (x_let (f33 0 a2 a3 h15) (fun x18 h17 => (g113_134 a3 j3 x18 0 0 h17))))))))) else (((-4) : Int32), h))) else (((-1) : Int32), h)))))) (((-1) : Int32), h))
noncomputable def f114 (a1 : Int32) (a2 : Int32) (a3 : Int32) (a4 : Int32) (a5 : Int32) (h : mx_H) : Int32 × mx_H := x_box (x_opt (f166 a1 h) (fun j3 => (if (f165 j3 a2 a3 h) = 0 then (((-1) : Int32), h) else (if (f157 a4 0 8) = 0 then (((-1) : Int32), h) else (if (f157 a5 0 1) ≠ 0 then (if a5 ≠ 0 then (x_h (f23 0 j3 a4 h) (fun h14 => (x_let (f33 0 a2 a3 h14) (fun x17 h16 => ((x17 : Int32), h16))))) else (x_h (f23 0 j3 (-a4) h) (fun h19 => (x_let (f33 0 a2 a3 h19) (fun x22 h21 => ((x22 : Int32), h21)))))) else (((-1) : Int32), h))))) (((-1) : Int32), h))
theorem f114_eq (a1 : Int32) (a2 : Int32) (a3 : Int32) (a4 : Int32) (a5 : Int32) (h : mx_H) : f114 a1 a2 a3 a4 a5 h = (x_opt (f166 a1 h) (fun j3 => (if (f165 j3 a2 a3 h) = 0 then (((-1) : Int32), h) else (if (f157 a4 0 8) = 0 then (((-1) : Int32), h) else (if (f157 a5 0 1) ≠ 0 then (if a5 ≠ 0 then (x_h (f23 0 j3 a4 h) (fun h14 => (x_let (f33 0 a2 a3 h14) (fun x17 h16 => ((x17 : Int32), h16))))) else (x_h (f23 0 j3 (-a4) h) (fun h19 => (x_let (f33 0 a2 a3 h19) (fun x22 h21 => ((x22 : Int32), h21)))))) else (((-1) : Int32), h))))) (((-1) : Int32), h)) := x_box_eq _
theorem x114 {E : mx_Ev} {n : Nat} {h : mx_H} {Q : Option mx_V → mx_H → Prop} {a1 : Int32} {a2 : Int32} {a3 : Int32} {a4 : Int32} {a5 : Int32} (hK : (xK_i Q) (f114 a1 a2 a3 a4 a5 h)) : mx_M E n 114 [.inr (.inl 0), .inl (.int a1), .inl (.int a2), .inl (.int a3), .inl (.int a4), .inl (.int a5)] h Q := by
  cases n with
  | zero => exact mx_L.zero
  | succ n => exact sl114_0 (x_use (x_eq (K := (xK_i Q)) (f114_eq a1 a2 a3 a4 a5 h) hK) (fun hK => (x166 (x_ov hK (fun j3 hK => (x165 (xh_i (x_ite hK (fun hK => hK) (fun hK => (x157 (xh_i (x_ite hK (fun hK => hK) (fun hK => (x157 (xh_i (x_ite hK (fun hK => (x_ite hK (fun hK => (x23 (xh_n (x_hk hK (fun hK => (x33 (xh_i (x_letk hK (fun hK => hK))))))))) (fun hK => (x23 (xh_n (x_hk hK (fun hK => (x33 (xh_i (x_letk hK (fun hK => hK))))))))))) (fun hK => hK))))))))))))) (fun hK => (x165_null (xh_i ⟨fun _ => hK, fun q => absurd (f165_null_eq _ _ _) q⟩)))))))
noncomputable def b115 : ((Int32 × Int32 × Int32 × Nat × Int32 × Int32 × Int32 × Int32 × mx_H)) → ((Int32 × Int32 × Int32 × Nat × Int32 × Int32 × Int32 × Int32 × mx_H)) ⊕ (Int32 × mx_H)
  | (a2, a3, a4, a5, a6, a7, a8, a9, h) => (if (h.2.1 (.inr (a5, 0)) 6) ≤ a9 then (if a4 ≠ 0 then (Sum.inr ((if a7 < 0 then 0 else a7 : Int32), h)) else (Sum.inr ((a8 : Int32), h))) else (x_h (f26 0 (h.2.1 (.inr (a5, 5)) (Int32.toNatClampNeg a9)) (h.2.1 (.inr (a5, 6)) (Int32.toNatClampNeg a9)) 0 h) (fun h2 => (x_let (f33 0 a2 a3 h2) (fun x5 h4 => (x_h (f26 0 (h4.2.1 (.inr (a5, 5)) (Int32.toNatClampNeg a9)) (h4.2.1 (.inr (a5, 6)) (Int32.toNatClampNeg a9)) (f62 a5 a9 h4) h4) (fun h10 => (if (a6 - x5) ≤ a7 then (Sum.inl (a2, a3, a4, a5, a6, a7, a8, (a9 + 1), h10)) else (Sum.inl (a2, a3, a4, a5, a6, (a6 - x5), ((h10.2.1 (.inr (a5, 0)) 5) + a9), (a9 + 1), h10))))))))))
noncomputable def g115_59 (a2 : Int32) (a3 : Int32) (a4 : Int32) (a5 : Nat) (a6 : Int32) (a7 : Int32) (a8 : Int32) (a9 : Int32) (h : mx_H) : Int32 × mx_H := ml_wh b115 (a2, a3, a4, a5, a6, a7, a8, a9, h)
noncomputable def f115 (a1 : Int32) (a2 : Int32) (a3 : Int32) (a4 : Int32) (h : mx_H) : Int32 × mx_H := x_box (x_opt (f166 a1 h) (fun j3 => (if (f165 j3 a2 a3 h) = 0 then (((-1) : Int32), h) else (if (f157 a4 0 1) ≠ 0 then (x_h (f22 0 j3 h) (fun h11 => (x_let (f33 0 a2 a3 h11) (fun x14 h13 => (g115_59 a2 a3 a4 j3 x14 (-1) (-2) 0 h13))))) else (((-1) : Int32), h)))) (((-1) : Int32), h))
noncomputable def b120 : ((Int32 × Int32 × Int32 × Int32 × Nat × mx_H) ⊕ (mx_H) ⊕ (Int32 × Int32 × Int32 × Int32 × Nat × mx_H)) → ((Int32 × Int32 × Int32 × Int32 × Nat × mx_H) ⊕ (mx_H) ⊕ (Int32 × Int32 × Int32 × Int32 × Nat × mx_H)) ⊕ (Int32 × mx_H)
  | (.inl (a1, a2, a3, a4, a5, h)) => (if (f157 a4 1 3) ≠ 0 then (if (h.2.1 (.inl 60) 1) ≤ 0 then (Sum.inl (.inr (.inr (a1, a2, a3, a4, a5, h)))) else (if (h.2.1 (.inl 60) 0) = a1 then (Sum.inl (.inr (.inr (a1, a2, a3, a4, a5, h)))) else (Sum.inr (((-1) : Int32), h)))) else (Sum.inl (.inr (.inl h))))
  | (.inr (.inl h)) => (Sum.inr (((-1) : Int32), h))
  | (.inr (.inr (a1, a2, a3, a4, a5, h))) => (if a3 ≠ (-1) then (if a3 ≠ (-1) then (x_val (f61 a5 a2 a3 h) (fun x3 => (if 0 ≤ x3 then (if (f43 4 x3 h) = 0 then (if (h.2.1 (.inl 60) 1) < 6 then (x_h (f44 4 x3 a4 (mx_uI h (.inl 60) 0 a1)) (fun h8 => (Sum.inr ((h8.2.1 (.inl 60) 1 : Int32), h8)))) else (Sum.inr (((-3) : Int32), h))) else (Sum.inr (((-1) : Int32), h))) else (Sum.inr (((-2) : Int32), h))))) else (if 0 ≤ a2 then (if (f43 4 a2 h) = 0 then (if (h.2.1 (.inl 60) 1) < 6 then (x_h (f44 4 a2 a4 (mx_uI h (.inl 60) 0 a1)) (fun h13 => (Sum.inr ((h13.2.1 (.inl 60) 1 : Int32), h13)))) else (Sum.inr (((-3) : Int32), h))) else (Sum.inr (((-1) : Int32), h))) else (Sum.inr (((-2) : Int32), h)))) else (if a3 ≠ (-1) then (x_val (f61 a5 a2 a3 h) (fun x16 => (if 0 ≤ x16 then (if (f43 3 x16 h) = 0 then (if (h.2.1 (.inl 60) 1) < 6 then (x_h (f44 3 x16 a4 (mx_uI h (.inl 60) 0 a1)) (fun h21 => (Sum.inr ((h21.2.1 (.inl 60) 1 : Int32), h21)))) else (Sum.inr (((-3) : Int32), h))) else (Sum.inr (((-1) : Int32), h))) else (Sum.inr (((-2) : Int32), h))))) else (if 0 ≤ a2 then (if (f43 3 a2 h) = 0 then (if (h.2.1 (.inl 60) 1) < 6 then (x_h (f44 3 a2 a4 (mx_uI h (.inl 60) 0 a1)) (fun h26 => (Sum.inr ((h26.2.1 (.inl 60) 1 : Int32), h26)))) else (Sum.inr (((-3) : Int32), h))) else (Sum.inr (((-1) : Int32), h))) else (Sum.inr (((-2) : Int32), h)))))
noncomputable def g120_30 (a1 : Int32) (a2 : Int32) (a3 : Int32) (a4 : Int32) (a5 : Nat) (h : mx_H) : Int32 × mx_H := ml_wh b120 (.inl (a1, a2, a3, a4, a5, h))
noncomputable def g120_40  (h : mx_H) : Int32 × mx_H := ml_wh b120 (.inr (.inl h))
noncomputable def g120_65 (a1 : Int32) (a2 : Int32) (a3 : Int32) (a4 : Int32) (a5 : Nat) (h : mx_H) : Int32 × mx_H := ml_wh b120 (.inr (.inr (a1, a2, a3, a4, a5, h)))
theorem g120_30_eq (a1 : Int32) (a2 : Int32) (a3 : Int32) (a4 : Int32) (a5 : Nat) (h : mx_H) : g120_30 a1 a2 a3 a4 a5 h = (if (f157 a4 1 3) ≠ 0 then (if (h.2.1 (.inl 60) 1) ≤ 0 then (g120_65 a1 a2 a3 a4 a5 h) else (if (h.2.1 (.inl 60) 0) = a1 then (g120_65 a1 a2 a3 a4 a5 h) else (((-1) : Int32), h))) else (g120_40  h)) := by
  unfold g120_30
  rw [ml_wh_eq]
  simp only [b120, ml_go_ite, ml_go_l, ml_go_r, ml_go_opt, ml_go_let, ml_go_h, ml_go_val]
  try rfl
theorem g120_40_eq  (h : mx_H) : g120_40  h = (((-1) : Int32), h) := by
  unfold g120_40
  rw [ml_wh_eq]
  simp only [b120, ml_go_ite, ml_go_l, ml_go_r, ml_go_opt, ml_go_let, ml_go_h, ml_go_val]
  try rfl
theorem g120_65_eq (a1 : Int32) (a2 : Int32) (a3 : Int32) (a4 : Int32) (a5 : Nat) (h : mx_H) : g120_65 a1 a2 a3 a4 a5 h = (if a3 ≠ (-1) then (if a3 ≠ (-1) then (x_val (f61 a5 a2 a3 h) (fun x3 => (if 0 ≤ x3 then (if (f43 4 x3 h) = 0 then (if (h.2.1 (.inl 60) 1) < 6 then (x_h (f44 4 x3 a4 (mx_uI h (.inl 60) 0 a1)) (fun h8 => ((h8.2.1 (.inl 60) 1 : Int32), h8))) else (((-3) : Int32), h)) else (((-1) : Int32), h)) else (((-2) : Int32), h)))) else (if 0 ≤ a2 then (if (f43 4 a2 h) = 0 then (if (h.2.1 (.inl 60) 1) < 6 then (x_h (f44 4 a2 a4 (mx_uI h (.inl 60) 0 a1)) (fun h13 => ((h13.2.1 (.inl 60) 1 : Int32), h13))) else (((-3) : Int32), h)) else (((-1) : Int32), h)) else (((-2) : Int32), h))) else (if a3 ≠ (-1) then (x_val (f61 a5 a2 a3 h) (fun x16 => (if 0 ≤ x16 then (if (f43 3 x16 h) = 0 then (if (h.2.1 (.inl 60) 1) < 6 then (x_h (f44 3 x16 a4 (mx_uI h (.inl 60) 0 a1)) (fun h21 => ((h21.2.1 (.inl 60) 1 : Int32), h21))) else (((-3) : Int32), h)) else (((-1) : Int32), h)) else (((-2) : Int32), h)))) else (if 0 ≤ a2 then (if (f43 3 a2 h) = 0 then (if (h.2.1 (.inl 60) 1) < 6 then (x_h (f44 3 a2 a4 (mx_uI h (.inl 60) 0 a1)) (fun h26 => ((h26.2.1 (.inl 60) 1 : Int32), h26))) else (((-3) : Int32), h)) else (((-1) : Int32), h)) else (((-2) : Int32), h)))) := by
  unfold g120_65
  rw [ml_wh_eq]
  simp only [b120, ml_go_ite, ml_go_l, ml_go_r, ml_go_opt, ml_go_let, ml_go_h, ml_go_val]
  try rfl
noncomputable def f120 (a1 : Int32) (a2 : Int32) (a3 : Int32) (a4 : Int32) (h : mx_H) : Int32 × mx_H := x_box (x_opt (f166 a1 h) (fun j3 => (if (f164 j3 a2 h) = 0 then (g120_40  h) else (if a3 = (-1) then (g120_30 a1 a2 a3 a4 j3 h) else (if (f164 j3 a3 h) = 0 then (g120_40  h) else (g120_30 a1 a2 a3 a4 j3 h))))) (g120_40  h))
theorem f120_eq (a1 : Int32) (a2 : Int32) (a3 : Int32) (a4 : Int32) (h : mx_H) : f120 a1 a2 a3 a4 h = (x_opt (f166 a1 h) (fun j3 => (if (f164 j3 a2 h) = 0 then (g120_40  h) else (if a3 = (-1) then (g120_30 a1 a2 a3 a4 j3 h) else (if (f164 j3 a3 h) = 0 then (g120_40  h) else (g120_30 a1 a2 a3 a4 j3 h))))) (g120_40  h)) := x_box_eq _
theorem xw120 {E : mx_Ev} {Q : Option mx_V → mx_H → Prop} : ∀ n : Nat, (∀ (a1 : Int32) (a2 : Int32) (a3 : Int32) (a4 : Int32) (a5 : Nat) (h : mx_H), (xK_i Q) (g120_30 a1 a2 a3 a4 a5 h) → mx_L E n 120 30 [(0, .inr (.inl 0)), (1, .inl (.int a1)), (2, .inl (.int a2)), (3, .inl (.int a3)), (4, .inl (.int a4)), (5, .inr (.inr (a5, 0)))] [] h Q) ∧ (∀ (h : mx_H), (xK_i Q) (g120_40  h) → mx_L E n 120 40 [] [] h Q) ∧ (∀ (a1 : Int32) (a2 : Int32) (a3 : Int32) (a4 : Int32) (a5 : Nat) (h : mx_H), (xK_i Q) (g120_65 a1 a2 a3 a4 a5 h) → mx_L E n 120 65 [(0, .inr (.inl 0)), (1, .inl (.int a1)), (2, .inl (.int a2)), (3, .inl (.int a3)), (4, .inl (.int a4)), (5, .inr (.inr (a5, 0)))] [] h Q)
  | 0 => ⟨fun _ _ _ _ _ _ _ => mx_L.zero, fun _ _ => mx_L.zero, fun _ _ _ _ _ _ _ => mx_L.zero⟩
  | n + 1 => ⟨fun a1 a2 a3 a4 a5 h hK => sl120_30 (x_use (x_eq (K := (xK_i Q)) (g120_30_eq a1 a2 a3 a4 a5 h) hK) (fun hK => (x157 (xh_i (x_ite hK (fun hK => (x_ite hK (fun hK => ((xw120 n).2.2 _ _ _ _ _ _ hK)) (fun hK => (x_ite hK (fun hK => ((xw120 n).2.2 _ _ _ _ _ _ hK)) (fun hK => hK))))) (fun hK => ((xw120 n).2.1 _ hK))))))), fun h hK => sl120_40 (x_use (x_eq (K := (xK_i Q)) (g120_40_eq  h) hK) (fun hK => hK)), fun a1 a2 a3 a4 a5 h hK => sl120_65 (x_use (x_eq (K := (xK_i Q)) (g120_65_eq a1 a2 a3 a4 a5 h) hK) (fun hK => (x_ite hK (fun hK => (x_ite hK (fun hK => (x61 (xh_i (x_valk hK (fun hK => (x_ite hK (fun hK => (x43 (xh_i (x_ite hK (fun hK => (x_ite hK (fun hK => (x44 (xh_n (x_hk hK (fun hK => hK))))) (fun hK => hK))) (fun hK => hK))))) (fun hK => hK))))))) (fun hK => (x_ite hK (fun hK => (x43 (xh_i (x_ite hK (fun hK => (x_ite hK (fun hK => (x44 (xh_n (x_hk hK (fun hK => hK))))) (fun hK => hK))) (fun hK => hK))))) (fun hK => hK))))) (fun hK => (x_ite hK (fun hK => (x61 (xh_i (x_valk hK (fun hK => (x_ite hK (fun hK => (x43 (xh_i (x_ite hK (fun hK => (x_ite hK (fun hK => (x44 (xh_n (x_hk hK (fun hK => hK))))) (fun hK => hK))) (fun hK => hK))))) (fun hK => hK))))))) (fun hK => (x_ite hK (fun hK => (x43 (xh_i (x_ite hK (fun hK => (x_ite hK (fun hK => (x44 (xh_n (x_hk hK (fun hK => hK))))) (fun hK => hK))) (fun hK => hK))))) (fun hK => hK))))))))⟩
theorem x120 {E : mx_Ev} {n : Nat} {h : mx_H} {Q : Option mx_V → mx_H → Prop} {a1 : Int32} {a2 : Int32} {a3 : Int32} {a4 : Int32} (hK : (xK_i Q) (f120 a1 a2 a3 a4 h)) : mx_M E n 120 [.inr (.inl 0), .inl (.int a1), .inl (.int a2), .inl (.int a3), .inl (.int a4)] h Q := by
  cases n with
  | zero => exact mx_L.zero
  | succ n => exact sl120_0 (x_use (x_eq (K := (xK_i Q)) (f120_eq a1 a2 a3 a4 h) hK) (fun hK => (x166 (x_ov hK (fun j3 hK => (x164 (xh_i (x_ite hK (fun hK => ((xw120 n).2.1 _ hK)) (fun hK => (x_ite hK (fun hK => ((xw120 n).1 _ _ _ _ _ _ hK)) (fun hK => (x164 (xh_i (x_ite hK (fun hK => ((xw120 n).2.1 _ hK)) (fun hK => ((xw120 n).1 _ _ _ _ _ _ hK)))))))))))) (fun hK => (x164_null (xh_i ⟨fun _ => ((xw120 n).2.1 _ hK), fun q => absurd (f164_null_eq _ _) q⟩)))))))
noncomputable def f167  (h : mx_H) : Option Nat := x_box (if (h.2.1 (.inl 60) 1) ≤ 0 then none else (x_opt (f166 (h.2.1 (.inl 60) 0) h) (fun j3 => (some j3)) none))
theorem f167_eq  (h : mx_H) : f167  h = (if (h.2.1 (.inl 60) 1) ≤ 0 then none else (x_opt (f166 (h.2.1 (.inl 60) 0) h) (fun j3 => (some j3)) none)) := x_box_eq _
theorem x167 {E : mx_Ev} {n : Nat} {h : mx_H} {Q : Option mx_V → mx_H → Prop} (hK : (xK_op Q h) (f167  h)) : mx_M E n 167 [.inr (.inl 0)] h Q := by
  cases n with
  | zero => exact mx_L.zero
  | succ n => exact sl167_0 (x_use (x_eq (K := (xK_op Q h)) (f167_eq  h) hK) (fun hK => (x_ite hK (fun hK => hK) (fun hK => (x166 (x_ov hK (fun j3 hK => hK) (fun hK => hK)))))))
noncomputable def f121 (a1 : Int32) (a2 : Int32) (a3 : Int32) (h : mx_H) : Int32 × mx_H := x_box (if (f157 a1 0 5) = 0 then (((-1) : Int32), h) else (if (f157 a2 1 9) = 0 then (((-1) : Int32), h) else (if (f157 a3 0 99) ≠ 0 then (x_opt (f167 h) (fun j12 => (if (f60 j12 h) ≤ a1 then (((-1) : Int32), h) else (if (f45 a1 a2 h) = 0 then (if (h.2.1 (.inl 60) 5) < 6 then (x_h (f46 a1 a2 a3 h) (fun h20 => ((h20.2.1 (.inl 60) 5 : Int32), h20))) else (((-3) : Int32), h)) else (((-1) : Int32), h)))) (((-4) : Int32), h)) else (((-1) : Int32), h))))
theorem f121_eq (a1 : Int32) (a2 : Int32) (a3 : Int32) (h : mx_H) : f121 a1 a2 a3 h = (if (f157 a1 0 5) = 0 then (((-1) : Int32), h) else (if (f157 a2 1 9) = 0 then (((-1) : Int32), h) else (if (f157 a3 0 99) ≠ 0 then (x_opt (f167 h) (fun j12 => (if (f60 j12 h) ≤ a1 then (((-1) : Int32), h) else (if (f45 a1 a2 h) = 0 then (if (h.2.1 (.inl 60) 5) < 6 then (x_h (f46 a1 a2 a3 h) (fun h20 => ((h20.2.1 (.inl 60) 5 : Int32), h20))) else (((-3) : Int32), h)) else (((-1) : Int32), h)))) (((-4) : Int32), h)) else (((-1) : Int32), h)))) := x_box_eq _
theorem x121 {E : mx_Ev} {n : Nat} {h : mx_H} {Q : Option mx_V → mx_H → Prop} {a1 : Int32} {a2 : Int32} {a3 : Int32} (hK : (xK_i Q) (f121 a1 a2 a3 h)) : mx_M E n 121 [.inr (.inl 0), .inl (.int a1), .inl (.int a2), .inl (.int a3)] h Q := by
  cases n with
  | zero => exact mx_L.zero
  | succ n => exact sl121_0 (x_use (x_eq (K := (xK_i Q)) (f121_eq a1 a2 a3 h) hK) (fun hK => (x157 (xh_i (x_ite hK (fun hK => hK) (fun hK => (x157 (xh_i (x_ite hK (fun hK => hK) (fun hK => (x157 (xh_i (x_ite hK (fun hK => (x167 (x_ov hK (fun j12 hK => (x60 (xh_i (x_ite hK (fun hK => hK) (fun hK => (x45 (xh_i (x_ite hK (fun hK => (x_ite hK (fun hK => (x46 (xh_n (x_hk hK (fun hK => hK))))) (fun hK => hK))) (fun hK => hK))))))))) (fun hK => hK)))) (fun hK => hK))))))))))))))
noncomputable def f124  (h : mx_H) : Int32 × mx_H := x_box ((h.2.1 (.inl 60) 1 : Int32), mx_uI (mx_uI h (.inl 60) 1 0) (.inl 60) 5 0)
theorem f124_eq  (h : mx_H) : f124  h = ((h.2.1 (.inl 60) 1 : Int32), mx_uI (mx_uI h (.inl 60) 1 0) (.inl 60) 5 0) := x_box_eq _
theorem x124 {E : mx_Ev} {n : Nat} {h : mx_H} {Q : Option mx_V → mx_H → Prop} (hK : (xK_i Q) (f124  h)) : mx_M E n 124 [.inr (.inl 0)] h Q := by
  cases n with
  | zero => exact mx_L.zero
  | succ n => exact sl124_0 (x_use (x_eq (K := (xK_i Q)) (f124_eq  h) hK) (fun hK => hK))
noncomputable def f125 (a1 : Int32) (h : mx_H) : Int32 × mx_H := x_box (if (f157 a1 0 99) ≠ 0 then (if (h.2.1 (.inl 68) 0) < 6 then (x_h (f12 a1 h) (fun h5 => ((h5.2.1 (.inl 68) 0 : Int32), h5))) else (((-3) : Int32), h)) else (((-1) : Int32), h))
noncomputable def f126 (a1 : Int32) (a2 : Int32) (a3 : Int32) (h : mx_H) : Int32 × mx_H := x_box (x_opt (f166 a1 h) (fun j3 => (if (f157 a2 1 9) = 0 then (((-1) : Int32), h) else (if (f157 a3 0 2) ≠ 0 then (if (h.2.1 (.inl 68) 0) ≤ (f60 j3 h) then (x_h (f13 j3 0 a2 h) (fun h14 => (if a3 ≠ 0 then (if (h14.2.1 (.inl 68) 2) ≠ 0 then (if a3 ≠ 2 then (if 0 ≤ (h14.2.1 (.inl 68) 3) then (((h14.2.1 (.inr (j3, 0)) 5) + (h14.2.1 (.inl 68) 3) : Int32), h14) else (((-1) : Int32), h14)) else ((h14.2.1 (.inl 68) 4 : Int32), h14)) else (((-2) : Int32), h14)) else ((h14.2.1 (.inl 68) 2 : Int32), h14)))) else (((-1) : Int32), h)) else (((-1) : Int32), h)))) (((-1) : Int32), h))
theorem f126_eq (a1 : Int32) (a2 : Int32) (a3 : Int32) (h : mx_H) : f126 a1 a2 a3 h = (x_opt (f166 a1 h) (fun j3 => (if (f157 a2 1 9) = 0 then (((-1) : Int32), h) else (if (f157 a3 0 2) ≠ 0 then (if (h.2.1 (.inl 68) 0) ≤ (f60 j3 h) then (x_h (f13 j3 0 a2 h) (fun h14 => (if a3 ≠ 0 then (if (h14.2.1 (.inl 68) 2) ≠ 0 then (if a3 ≠ 2 then (if 0 ≤ (h14.2.1 (.inl 68) 3) then (((h14.2.1 (.inr (j3, 0)) 5) + (h14.2.1 (.inl 68) 3) : Int32), h14) else (((-1) : Int32), h14)) else ((h14.2.1 (.inl 68) 4 : Int32), h14)) else (((-2) : Int32), h14)) else ((h14.2.1 (.inl 68) 2 : Int32), h14)))) else (((-1) : Int32), h)) else (((-1) : Int32), h)))) (((-1) : Int32), h)) := x_box_eq _
theorem x126 {E : mx_Ev} {n : Nat} {h : mx_H} {Q : Option mx_V → mx_H → Prop} {a1 : Int32} {a2 : Int32} {a3 : Int32} (hK : (xK_i Q) (f126 a1 a2 a3 h)) : mx_M E n 126 [.inr (.inl 0), .inl (.int a1), .inl (.int a2), .inl (.int a3)] h Q := by
  cases n with
  | zero => exact mx_L.zero
  | succ n => exact sl126_0 (x_use (x_eq (K := (xK_i Q)) (f126_eq a1 a2 a3 h) hK) (fun hK => (x166 (x_ov hK (fun j3 hK => (x157 (xh_i (x_ite hK (fun hK => hK) (fun hK => (x157 (xh_i (x_ite hK (fun hK => (x60 (xh_i (x_ite hK (fun hK => (x13 (xh_n (x_hk hK (fun hK => (x_ite hK (fun hK => (x_ite hK (fun hK => (x_ite hK (fun hK => (x_ite hK (fun hK => hK) (fun hK => hK))) (fun hK => hK))) (fun hK => hK))) (fun hK => hK))))))) (fun hK => hK))))) (fun hK => hK))))))))) (fun hK => hK)))))
noncomputable def f127 (a1 : Int32) (a2 : Int32) (h : mx_H) : Int32 × mx_H := x_box (x_opt (f166 a1 h) (fun j3 => (if (f157 a2 1 9) ≠ 0 then (if (h.2.1 (.inl 68) 0) < (f60 j3 h) then (x_h (f13 j3 0 a2 h) (fun h11 => (if (h11.2.1 (.inl 68) 2) ≠ 0 then (((f15 (f60 j3 h11) h11) : Int32), h11) else (((-2) : Int32), h11)))) else (((-2) : Int32), h)) else (((-1) : Int32), h))) (((-1) : Int32), h))
theorem f127_eq (a1 : Int32) (a2 : Int32) (h : mx_H) : f127 a1 a2 h = (x_opt (f166 a1 h) (fun j3 => (if (f157 a2 1 9) ≠ 0 then (if (h.2.1 (.inl 68) 0) < (f60 j3 h) then (x_h (f13 j3 0 a2 h) (fun h11 => (if (h11.2.1 (.inl 68) 2) ≠ 0 then (((f15 (f60 j3 h11) h11) : Int32), h11) else (((-2) : Int32), h11)))) else (((-2) : Int32), h)) else (((-1) : Int32), h))) (((-1) : Int32), h)) := x_box_eq _
theorem x127 {E : mx_Ev} {n : Nat} {h : mx_H} {Q : Option mx_V → mx_H → Prop} {a1 : Int32} {a2 : Int32} (hK : (xK_i Q) (f127 a1 a2 h)) : mx_M E n 127 [.inr (.inl 0), .inl (.int a1), .inl (.int a2)] h Q := by
  cases n with
  | zero => exact mx_L.zero
  | succ n => exact sl127_0 (x_use (x_eq (K := (xK_i Q)) (f127_eq a1 a2 h) hK) (fun hK => (x166 (x_ov hK (fun j3 hK => (x157 (xh_i (x_ite hK (fun hK => (x60 (xh_i (x_ite hK (fun hK => (x13 (xh_n (x_hk hK (fun hK => (x_ite hK (fun hK => (x60 (xh_i (x15 (xh_i hK))))) (fun hK => hK))))))) (fun hK => hK))))) (fun hK => hK))))) (fun hK => hK)))))
noncomputable def f128  (h : mx_H) : Int32 × mx_H := x_box ((h.2.1 (.inl 68) 0 : Int32), mx_uI h (.inl 68) 0 0)
noncomputable def f129 (a1 : Int32) (h : mx_H) : Int32 × mx_H := x_box (if (f157 a1 0 500) ≠ 0 then ((h.2.1 (.inl 71) 0 : Int32), mx_uI h (.inl 71) 0 a1) else (((-1) : Int32), h))
noncomputable def f160 (a0 : Int32) : Int32 := x_box ((f157 a0 0 3) : Int32)
theorem f160_eq (a0 : Int32) : f160 a0 = ((f157 a0 0 3) : Int32) := x_box_eq _
theorem x160 {E : mx_Ev} {n : Nat} {h : mx_H} {Q : Option mx_V → mx_H → Prop} {a0 : Int32} (hK : (xK_ip Q h) (f160 a0)) : mx_M E n 160 [.inl (.int a0)] h Q := by
  cases n with
  | zero => exact mx_L.zero
  | succ n => exact sl160_0 (x_use (x_eq (K := (xK_ip Q h)) (f160_eq a0) hK) (fun hK => (x157 (xh_i (fun _ => hK)))))
noncomputable def f130 (a1 : Int32) (a2 : Int32) (h : mx_H) : Int32 × mx_H := x_box (if (f160 a1) = 0 then (((-2000000000) : Int32), h) else (if (f157 a2 (-1) 5) ≠ 0 then ((h.2.1 (.inl 72) (Int32.toNatClampNeg a1) : Int32), mx_uI h (.inl 72) (Int32.toNatClampNeg a1) a2) else (((-2000000000) : Int32), h)))
theorem f130_eq (a1 : Int32) (a2 : Int32) (h : mx_H) : f130 a1 a2 h = (if (f160 a1) = 0 then (((-2000000000) : Int32), h) else (if (f157 a2 (-1) 5) ≠ 0 then ((h.2.1 (.inl 72) (Int32.toNatClampNeg a1) : Int32), mx_uI h (.inl 72) (Int32.toNatClampNeg a1) a2) else (((-2000000000) : Int32), h))) := x_box_eq _
theorem x130 {E : mx_Ev} {n : Nat} {h : mx_H} {Q : Option mx_V → mx_H → Prop} {a1 : Int32} {a2 : Int32} (hK : (xK_i Q) (f130 a1 a2 h)) : mx_M E n 130 [.inr (.inl 0), .inl (.int a1), .inl (.int a2)] h Q := by
  cases n with
  | zero => exact mx_L.zero
  | succ n => exact sl130_0 (x_use (x_eq (K := (xK_i Q)) (f130_eq a1 a2 h) hK) (fun hK => (x160 (xh_i (x_ite hK (fun hK => hK) (fun hK => (x157 (xh_i (x_ite hK (fun hK => (fun _ => (fun _ => hK))) (fun hK => hK))))))))))
noncomputable def f159 (a0 : Int32) : Int32 := x_box ((f157 a0 (-99) 99) : Int32)
theorem f159_eq (a0 : Int32) : f159 a0 = ((f157 a0 (-99) 99) : Int32) := x_box_eq _
theorem x159 {E : mx_Ev} {n : Nat} {h : mx_H} {Q : Option mx_V → mx_H → Prop} {a0 : Int32} (hK : (xK_ip Q h) (f159 a0)) : mx_M E n 159 [.inl (.int a0)] h Q := by
  cases n with
  | zero => exact mx_L.zero
  | succ n => exact sl159_0 (x_use (x_eq (K := (xK_ip Q h)) (f159_eq a0) hK) (fun hK => (x157 (xh_i (fun _ => hK)))))
noncomputable def f131 (a1 : Int32) (a2 : Int32) (a3 : Int32) (a4 : Int32) (h : mx_H) : Int32 × mx_H := x_box (x_opt (f166 a1 h) (fun j3 => (if (f164 j3 a2 h) = 0 then (((-1) : Int32), h) else (if (f159 a3) = 0 then (((-1) : Int32), h) else (if (f157 a4 1 200) ≠ 0 then (if (h.2.1 (.inr (j3, 4)) (Int32.toNatClampNeg a2)) = 0 then (x_h (f22 0 j3 h) (fun h14 => (x_h (f3 0 h14) (fun h16 => (x_h (f4 0 a2 a3 h16) (fun h18 => (x_let (f5 0 a4 0 h18) (fun x21 h20 => ((x21 : Int32), h20))))))))) else (((-4) : Int32), h)) else (((-1) : Int32), h))))) (((-1) : Int32), h))
noncomputable def f132 (a1 : Int32) (a2 : Int32) (a3 : Int32) (h : mx_H) : Int32 × mx_H := x_box (if (f157 a1 0 5) = 0 then (((-1) : Int32), h) else (if (f159 a2) = 0 then (((-1) : Int32), h) else (if (f157 a3 0 99) ≠ 0 then (if (h.2.1 (.inl 71) 7) < 6 then (x_h (f2 a1 a2 a3 h) (fun h11 => ((h11.2.1 (.inl 71) 7 : Int32), h11))) else (((-3) : Int32), h)) else (((-1) : Int32), h))))
theorem f132_eq (a1 : Int32) (a2 : Int32) (a3 : Int32) (h : mx_H) : f132 a1 a2 a3 h = (if (f157 a1 0 5) = 0 then (((-1) : Int32), h) else (if (f159 a2) = 0 then (((-1) : Int32), h) else (if (f157 a3 0 99) ≠ 0 then (if (h.2.1 (.inl 71) 7) < 6 then (x_h (f2 a1 a2 a3 h) (fun h11 => ((h11.2.1 (.inl 71) 7 : Int32), h11))) else (((-3) : Int32), h)) else (((-1) : Int32), h)))) := x_box_eq _
theorem x132 {E : mx_Ev} {n : Nat} {h : mx_H} {Q : Option mx_V → mx_H → Prop} {a1 : Int32} {a2 : Int32} {a3 : Int32} (hK : (xK_i Q) (f132 a1 a2 a3 h)) : mx_M E n 132 [.inr (.inl 0), .inl (.int a1), .inl (.int a2), .inl (.int a3)] h Q := by
  cases n with
  | zero => exact mx_L.zero
  | succ n => exact sl132_0 (x_use (x_eq (K := (xK_i Q)) (f132_eq a1 a2 a3 h) hK) (fun hK => (x157 (xh_i (x_ite hK (fun hK => hK) (fun hK => (x159 (xh_i (x_ite hK (fun hK => hK) (fun hK => (x157 (xh_i (x_ite hK (fun hK => (x_ite hK (fun hK => (x2 (xh_n (x_hk hK (fun hK => hK))))) (fun hK => hK))) (fun hK => hK))))))))))))))
noncomputable def f133 (a1 : Int32) (a2 : Int32) (h : mx_H) : Int32 × mx_H := x_box (x_opt (f166 a1 h) (fun j3 => (if (f157 a2 1 200) ≠ 0 then (if (h.2.1 (.inl 71) 7) ≠ 0 then (x_h (f22 0 j3 h) (fun h8 => (x_h (f3 0 h8) (fun h10 => (x_let (f5 0 a2 (h10.2.1 (.inl 71) 7) h10) (fun x13 h12 => ((x13 : Int32), mx_uI h12 (.inl 71) 7 0))))))) else (((-4) : Int32), h)) else (((-1) : Int32), h))) (((-1) : Int32), h))
theorem f133_eq (a1 : Int32) (a2 : Int32) (h : mx_H) : f133 a1 a2 h = (x_opt (f166 a1 h) (fun j3 => (if (f157 a2 1 200) ≠ 0 then (if (h.2.1 (.inl 71) 7) ≠ 0 then (x_h (f22 0 j3 h) (fun h8 => (x_h (f3 0 h8) (fun h10 => (x_let (f5 0 a2 (h10.2.1 (.inl 71) 7) h10) (fun x13 h12 => ((x13 : Int32), mx_uI h12 (.inl 71) 7 0))))))) else (((-4) : Int32), h)) else (((-1) : Int32), h))) (((-1) : Int32), h)) := x_box_eq _
theorem x133 {E : mx_Ev} {n : Nat} {h : mx_H} {Q : Option mx_V → mx_H → Prop} {a1 : Int32} {a2 : Int32} (hK : (xK_i Q) (f133 a1 a2 h)) : mx_M E n 133 [.inr (.inl 0), .inl (.int a1), .inl (.int a2)] h Q := by
  cases n with
  | zero => exact mx_L.zero
  | succ n => exact sl133_0 (x_use (x_eq (K := (xK_i Q)) (f133_eq a1 a2 h) hK) (fun hK => (x166 (x_ov hK (fun j3 hK => (x157 (xh_i (x_ite hK (fun hK => (x_ite hK (fun hK => (x22 (xh_n (x_hk hK (fun hK => (x3 (xh_n (x_hk hK (fun hK => (x5 (xh_i (x_letk hK (fun hK => hK))))))))))))) (fun hK => hK))) (fun hK => hK))))) (fun hK => hK)))))
noncomputable def f134 (a1 : Int32) (a2 : Int32) (h : mx_H) : Int32 := x_box (if (f160 a1) = 0 then ((-2000000000) : Int32) else (if (f157 a2 1 (h.2.1 (.inl 71) 2)) = 0 then ((-2000000000) : Int32) else (if (f7 a1 h) ≠ 0 then ((f8 a1 a2 h) : Int32) else ((-2000000000) : Int32))))
noncomputable def f135 (a1 : Int32) (a2 : Int32) (h : mx_H) : Int32 := x_box (if (f160 a1) = 0 then ((-1) : Int32) else (if (-1) ≤ a2 then (if (f7 a1 h) ≠ 0 then (if a2 ≠ (-1) then ((f10 a1 a2 h) : Int32) else ((f9 a1 h) : Int32)) else ((-4) : Int32)) else ((-1) : Int32)))
theorem f135_eq (a1 : Int32) (a2 : Int32) (h : mx_H) : f135 a1 a2 h = (if (f160 a1) = 0 then ((-1) : Int32) else (if (-1) ≤ a2 then (if (f7 a1 h) ≠ 0 then (if a2 ≠ (-1) then ((f10 a1 a2 h) : Int32) else ((f9 a1 h) : Int32)) else ((-4) : Int32)) else ((-1) : Int32))) := x_box_eq _
theorem x135 {E : mx_Ev} {n : Nat} {h : mx_H} {Q : Option mx_V → mx_H → Prop} {a1 : Int32} {a2 : Int32} (hK : (xK_ip Q h) (f135 a1 a2 h)) : mx_M E n 135 [.inr (.inl 0), .inl (.int a1), .inl (.int a2)] h Q := by
  cases n with
  | zero => exact mx_L.zero
  | succ n => exact sl135_0 (x_use (x_eq (K := (xK_ip Q h)) (f135_eq a1 a2 h) hK) (fun hK => (x160 (xh_i (x_ite hK (fun hK => hK) (fun hK => (x_ite hK (fun hK => (x7 (xh_i (x_ite hK (fun hK => (x_ite hK (fun hK => (x10 (xh_i hK))) (fun hK => (x9 (xh_i hK))))) (fun hK => hK))))) (fun hK => hK))))))))
noncomputable def f161 (a0 : Int32) : Int32 := x_box ((f157 a0 0 5) : Int32)
theorem f161_eq (a0 : Int32) : f161 a0 = ((f157 a0 0 5) : Int32) := x_box_eq _
theorem x161 {E : mx_Ev} {n : Nat} {h : mx_H} {Q : Option mx_V → mx_H → Prop} {a0 : Int32} (hK : (xK_ip Q h) (f161 a0)) : mx_M E n 161 [.inl (.int a0)] h Q := by
  cases n with
  | zero => exact mx_L.zero
  | succ n => exact sl161_0 (x_use (x_eq (K := (xK_ip Q h)) (f161_eq a0) hK) (fun hK => (x157 (xh_i (fun _ => hK)))))
noncomputable def b136 : ((Int32 × Int32 × Int32 × Int32 × Int32 × mx_H)) → ((Int32 × Int32 × Int32 × Int32 × Int32 × mx_H)) ⊕ (Int32 × mx_H)
  | (a1, a2, a3, a6, a7, h) => (if a6 ≤ a7 then (Sum.inr ((a6 : Int32), h)) else (x_h (f79 a2 (a3 + a7) (f8 a1 (a7 + 1) h) h) (fun h5 => (Sum.inl (a1, a2, a3, a6, (a7 + 1), h5)))))
noncomputable def g136_105 (a1 : Int32) (a2 : Int32) (a3 : Int32) (a6 : Int32) (a7 : Int32) (h : mx_H) : Int32 × mx_H := ml_wh b136 (a1, a2, a3, a6, a7, h)
noncomputable def f136 (a1 : Int32) (a2 : Int32) (a3 : Int32) (a4 : Int32) (h : mx_H) : Int32 × mx_H := x_box (if (f160 a1) = 0 then (((-1) : Int32), h) else (if (f161 a2) = 0 then (((-1) : Int32), h) else (if (f157 a4 1 60) ≠ 0 then (if (f7 a1 h) ≠ 0 then (x_val (f73 a2 h) (fun x15 => (if x15 = 0 then (if (f74 a2 a3 h) ≠ 0 then (g136_105 a1 a2 a3 (if (if (h.2.1 (.inl 71) 2) < ((h.2.1 (.inl 96) (Int32.toNatClampNeg a2)) - a3) then (h.2.1 (.inl 71) 2) else ((h.2.1 (.inl 96) (Int32.toNatClampNeg a2)) - a3)) < a4 then (if (h.2.1 (.inl 71) 2) < ((h.2.1 (.inl 96) (Int32.toNatClampNeg a2)) - a3) then (h.2.1 (.inl 71) 2) else ((h.2.1 (.inl 96) (Int32.toNatClampNeg a2)) - a3)) else a4) 0 h) else (((-13) : Int32), h)) else ((x15 : Int32), h)))) else (((-4) : Int32), h)) else (((-1) : Int32), h))))
noncomputable def f138 (a1 : Int32) (h : mx_H) : Int32 := x_box (if (f161 a1) ≠ 0 then (x_val (f73 a1 h) (fun x6 => (if x6 = 0 then (if (h.2.1 (.inl 96) (Int32.toNatClampNeg a1)) ≠ 0 then ((f83 a1 h) : Int32) else ((-2) : Int32)) else (x6 : Int32)))) else ((-1) : Int32))
noncomputable def b140 : ((Int32 × Int32 × Int32 × Int32 × Int32 × mx_H)) → ((Int32 × Int32 × Int32 × Int32 × Int32 × mx_H)) ⊕ (Int32 × mx_H)
  | (a1, a2, a3, a4, a5, h) => (if a2 ≤ a5 then (if (a2 - 1) ≤ (h.2.1 (.inl 80) 0) then (if a4 ≠ 0 then (Sum.inr (((f56 a2 a3 h) : Int32), h)) else (Sum.inr (((f55 a2 a3 h) : Int32), h))) else (Sum.inr (((-4) : Int32), h))) else (x_opt (f166 ((a1 >>> ((4 * a5) &&& 31)) &&& 15) h) (fun j9 => (if (f60 j9 h) ≠ 0 then (x_h (f22 0 j9 h) (fun h14 => (x_let (f33 0 0 9 h14) (fun x17 h16 => (Sum.inl (a1, a2, a3, a4, (a5 + 1), mx_uI h16 (.inl 83) (Int32.toNatClampNeg a5) x17)))))) else (Sum.inr (((-1) : Int32), h)))) (Sum.inr (((-1) : Int32), h))))
noncomputable def g140_46 (a1 : Int32) (a2 : Int32) (a3 : Int32) (a4 : Int32) (a5 : Int32) (h : mx_H) : Int32 × mx_H := ml_wh b140 (a1, a2, a3, a4, a5, h)
theorem g140_46_eq (a1 : Int32) (a2 : Int32) (a3 : Int32) (a4 : Int32) (a5 : Int32) (h : mx_H) : g140_46 a1 a2 a3 a4 a5 h = (if a2 ≤ a5 then (if (a2 - 1) ≤ (h.2.1 (.inl 80) 0) then (if a4 ≠ 0 then (((f56 a2 a3 h) : Int32), h) else (((f55 a2 a3 h) : Int32), h)) else (((-4) : Int32), h)) else (x_opt (f166 ((a1 >>> ((4 * a5) &&& 31)) &&& 15) h) (fun j9 => (if (f60 j9 h) ≠ 0 then (x_h (f22 0 j9 h) (fun h14 => (x_let (f33 0 0 9 h14) (fun x17 h16 => (g140_46 a1 a2 a3 a4 (a5 + 1) (mx_uI h16 (.inl 83) (Int32.toNatClampNeg a5) x17)))))) else (((-1) : Int32), h))) (((-1) : Int32), h))) := by
  unfold g140_46
  rw [ml_wh_eq]
  simp only [b140, ml_go_ite, ml_go_l, ml_go_r, ml_go_opt, ml_go_let, ml_go_h, ml_go_val]
  try rfl
noncomputable def f140 (a1 : Int32) (a2 : Int32) (a3 : Int32) (a4 : Int32) (h : mx_H) : Int32 × mx_H := x_box (if (f157 a2 2 7) = 0 then (((-1) : Int32), h) else (if (a1 >>> ((4 * a2) &&& 31)) = 0 then (if (f157 a3 0 9999) = 0 then (((-1) : Int32), h) else (if (f157 a4 0 1) ≠ 0 then (g140_46 a1 a2 a3 a4 0 h) else (((-1) : Int32), h))) else (((-1) : Int32), h)))
theorem f140_eq (a1 : Int32) (a2 : Int32) (a3 : Int32) (a4 : Int32) (h : mx_H) : f140 a1 a2 a3 a4 h = (if (f157 a2 2 7) = 0 then (((-1) : Int32), h) else (if (a1 >>> ((4 * a2) &&& 31)) = 0 then (if (f157 a3 0 9999) = 0 then (((-1) : Int32), h) else (if (f157 a4 0 1) ≠ 0 then (g140_46 a1 a2 a3 a4 0 h) else (((-1) : Int32), h))) else (((-1) : Int32), h))) := x_box_eq _
theorem xw140 {E : mx_Ev} {Q : Option mx_V → mx_H → Prop} : ∀ n : Nat, (∀ (a1 : Int32) (a2 : Int32) (a3 : Int32) (a4 : Int32) (a5 : Int32) (h : mx_H), (xK_i Q) (g140_46 a1 a2 a3 a4 a5 h) → mx_L E n 140 46 [(0, .inr (.inl 0)), (1, .inl (.int a1)), (2, .inl (.int a2)), (3, .inl (.int a3)), (4, .inl (.int a4)), (5, .inl (.int a5))] [] h Q)
  | 0 => fun _ _ _ _ _ _ _ => mx_L.zero
  | n + 1 => fun a1 a2 a3 a4 a5 h hK => sl140_46 (x_use (x_eq (K := (xK_i Q)) (g140_46_eq a1 a2 a3 a4 a5 h) hK) (fun hK => (x_ite hK (fun hK => (x_ite hK (fun hK => (x_ite hK (fun hK => (x56 (xh_i hK))) (fun hK => (x55 (xh_i hK))))) (fun hK => hK))) (fun hK => (x166 (x_ov hK (fun j9 hK => (x60 (xh_i (x_ite hK (fun hK => (x22 (xh_n (x_hk hK (fun hK => (x33 (xh_i (x_letk hK (fun hK => (fun _ => ((xw140 n) _ _ _ _ _ _ hK))))))))))) (fun hK => hK))))) (fun hK => hK)))))))
theorem x140 {E : mx_Ev} {n : Nat} {h : mx_H} {Q : Option mx_V → mx_H → Prop} {a1 : Int32} {a2 : Int32} {a3 : Int32} {a4 : Int32} (hK : (xK_i Q) (f140 a1 a2 a3 a4 h)) : mx_M E n 140 [.inr (.inl 0), .inl (.int a1), .inl (.int a2), .inl (.int a3), .inl (.int a4)] h Q := by
  cases n with
  | zero => exact mx_L.zero
  | succ n => exact sl140_0 (x_use (x_eq (K := (xK_i Q)) (f140_eq a1 a2 a3 a4 h) hK) (fun hK => (x157 (xh_i (x_ite hK (fun hK => hK) (fun hK => (x_ite hK (fun hK => (x157 (xh_i (x_ite hK (fun hK => hK) (fun hK => (x157 (xh_i (x_ite hK (fun hK => ((xw140 n) _ _ _ _ _ _ hK)) (fun hK => hK))))))))) (fun hK => hK))))))))
noncomputable def f141  (h : mx_H) : Int32 × mx_H := x_box ((h.2.1 (.inl 80) 0 : Int32), mx_uI h (.inl 80) 0 0)
noncomputable def f171 (a1 : Nat) (a2 : Int32) (h : mx_H) : Int32 × mx_H := x_box (x_h (f22 0 a1 h) (fun h2 => (x_let (f31 0 (a2 / 10) (a2 - a2 / 10 * 10) h2) (fun x5 h4 => ((x5 : Int32), h4)))))
theorem f171_eq (a1 : Nat) (a2 : Int32) (h : mx_H) : f171 a1 a2 h = (x_h (f22 0 a1 h) (fun h2 => (x_let (f31 0 (a2 / 10) (a2 - a2 / 10 * 10) h2) (fun x5 h4 => ((x5 : Int32), h4))))) := x_box_eq _
theorem x171 {E : mx_Ev} {n : Nat} {h : mx_H} {Q : Option mx_V → mx_H → Prop} {a1 : Nat} {a2 : Int32} (hK : (xK_i Q) (f171 a1 a2 h)) : mx_M E n 171 [.inr (.inl 0), .inr (.inr (a1, 0)), .inl (.int a2)] h Q := by
  cases n with
  | zero => exact mx_L.zero
  | succ n => exact sl171_0 (x_use (x_eq (K := (xK_i Q)) (f171_eq a1 a2 h) hK) (fun hK => (x22 (xh_n (x_hk hK (fun hK => (fun _ => (fun _ => (x31 (xh_i (x_letk hK (fun hK => hK))))))))))))
noncomputable def f143 (a1 : Int32) (a2 : Int32) (h : mx_H) : Int32 × mx_H := x_box (x_opt (f166 a1 h) (fun j3 => (if (f158 a2) ≠ 0 then (x_opt (f166 (h.2.1 (.inr (j3, 0)) 11) h) (fun j9 => (x_opt (f166 (h.2.1 (.inr (j3, 0)) 12) h) (fun j12 => (x_let (f171 j9 a2 h) (fun x15 h14 => (x_let (f171 j12 a2 h14) (fun x18 h17 => (x_let (f171 j3 a2 h17) (fun x21 h20 => (if ((x15 + x18) - x21) = 0 then ((1 : Int32), h20) else (if ((x15 + x18) - x21) ≠ 1 then ((0 : Int32), h20) else ((1 : Int32), h20)))))))))) (((-2) : Int32), h))) (x_opt (f166 (h.2.1 (.inr (j3, 0)) 12) h) (fun j24 => (((-2) : Int32), h)) (((-2) : Int32), h))) else (((-1) : Int32), h))) (((-1) : Int32), h))
noncomputable def f144  (h : mx_H) : Int32 × mx_H := x_box (if (h.2.1 (.inl 84) 0) ≠ 0 then (x_h (f19 h) (fun h2 => ((h2.2.1 (.inl 84) 0 : Int32), h2))) else (((-4) : Int32), h))
theorem f144_eq  (h : mx_H) : f144  h = (if (h.2.1 (.inl 84) 0) ≠ 0 then (x_h (f19 h) (fun h2 => ((h2.2.1 (.inl 84) 0 : Int32), h2))) else (((-4) : Int32), h)) := x_box_eq _
theorem x144 {E : mx_Ev} {n : Nat} {h : mx_H} {Q : Option mx_V → mx_H → Prop} (hK : (xK_i Q) (f144  h)) : mx_M E n 144 [.inr (.inl 0)] h Q := by
  cases n with
  | zero => exact mx_L.zero
  | succ n => exact sl144_0 (x_use (x_eq (K := (xK_i Q)) (f144_eq  h) hK) (fun hK => (x_ite hK (fun hK => (x19 (xh_n (x_hk hK (fun hK => hK))))) (fun hK => hK))))
noncomputable def f145  (h : mx_H) : Int32 × mx_H := x_box (if (h.2.1 (.inl 84) 1) ≠ 0 then (x_h (f20 h) (fun h2 => ((h2.2.1 (.inl 84) 1 : Int32), h2))) else (((-4) : Int32), h))
theorem f145_eq  (h : mx_H) : f145  h = (if (h.2.1 (.inl 84) 1) ≠ 0 then (x_h (f20 h) (fun h2 => ((h2.2.1 (.inl 84) 1 : Int32), h2))) else (((-4) : Int32), h)) := x_box_eq _
theorem x145 {E : mx_Ev} {n : Nat} {h : mx_H} {Q : Option mx_V → mx_H → Prop} (hK : (xK_i Q) (f145  h)) : mx_M E n 145 [.inr (.inl 0)] h Q := by
  cases n with
  | zero => exact mx_L.zero
  | succ n => exact sl145_0 (x_use (x_eq (K := (xK_i Q)) (f145_eq  h) hK) (fun hK => (x_ite hK (fun hK => (x20 (xh_n (x_hk hK (fun hK => hK))))) (fun hK => hK))))
noncomputable def b146 : ((Int32 × Int32 × mx_H)) → ((Int32 × Int32 × mx_H)) ⊕ (Int32)
  | (a1, a2, h) => (if (h.2.1 (.inl 0) 2) ≤ a2 then (Sum.inr (a1 : Int32)) else (x_opt (f166 a2 h) (fun j3 => (Sum.inl ((f68 j3 a1 h), (a2 + 1), h))) (Sum.inl (a1, (a2 + 1), h))))
noncomputable def g146_5 (a1 : Int32) (a2 : Int32) (h : mx_H) : Int32 := ml_wh b146 (a1, a2, h)
theorem g146_5_eq (a1 : Int32) (a2 : Int32) (h : mx_H) : g146_5 a1 a2 h = (if (h.2.1 (.inl 0) 2) ≤ a2 then (a1 : Int32) else (x_opt (f166 a2 h) (fun j3 => (g146_5 (f68 j3 a1 h) (a2 + 1) h)) (g146_5 a1 (a2 + 1) h))) := by
  unfold g146_5
  rw [ml_wh_eq]
  simp only [b146, ml_go_ite, ml_go_l, ml_go_r, ml_go_opt, ml_go_let, ml_go_h, ml_go_val]
  try rfl
noncomputable def f146  (h : mx_H) : Int32 := x_box (g146_5 7 0 h)
theorem f146_eq  (h : mx_H) : f146  h = (g146_5 7 0 h) := x_box_eq _
noncomputable def f162 (a0 : Int32) : Int32 := x_box ((f157 a0 0 5) : Int32)
theorem f162_eq (a0 : Int32) : f162 a0 = ((f157 a0 0 5) : Int32) := x_box_eq _
theorem x162 {E : mx_Ev} {n : Nat} {h : mx_H} {Q : Option mx_V → mx_H → Prop} {a0 : Int32} (hK : (xK_ip Q h) (f162 a0)) : mx_M E n 162 [.inl (.int a0)] h Q := by
  cases n with
  | zero => exact mx_L.zero
  | succ n => exact sl162_0 (x_use (x_eq (K := (xK_ip Q h)) (f162_eq a0) hK) (fun hK => (x157 (xh_i (fun _ => hK)))))
noncomputable def f147 (a1 : Int32) (h : mx_H) : Int32 × mx_H := x_box (if (f162 a1) ≠ 0 then (if (h.2.1 (.inl 90) 0) < 200 then (x_let (f37_null a1 h) (fun x6 h5 => ((x6 : Int32), h5))) else (((-3) : Int32), h)) else (((-1) : Int32), h))
theorem f147_eq (a1 : Int32) (h : mx_H) : f147 a1 h = (if (f162 a1) ≠ 0 then (if (h.2.1 (.inl 90) 0) < 200 then (x_let (f37_null a1 h) (fun x6 h5 => ((x6 : Int32), h5))) else (((-3) : Int32), h)) else (((-1) : Int32), h)) := x_box_eq _
theorem x147 {E : mx_Ev} {n : Nat} {h : mx_H} {Q : Option mx_V → mx_H → Prop} {a1 : Int32} (hK : (xK_i Q) (f147 a1 h)) : mx_M E n 147 [.inr (.inl 0), .inl (.int a1)] h Q := by
  cases n with
  | zero => exact mx_L.zero
  | succ n => exact sl147_0 (x_use (x_eq (K := (xK_i Q)) (f147_eq a1 h) hK) (fun hK => (x162 (xh_i (x_ite hK (fun hK => (x_ite hK (fun hK => (x37_null (xh_i (x_letk hK (fun hK => hK))))) (fun hK => hK))) (fun hK => hK))))))
noncomputable def f163 (a1 : Int32) (h : mx_H) : Int32 := x_box ((f157 a1 0 ((h.2.1 (.inl 90) 0) - 1)) : Int32)
theorem f163_eq (a1 : Int32) (h : mx_H) : f163 a1 h = ((f157 a1 0 ((h.2.1 (.inl 90) 0) - 1)) : Int32) := x_box_eq _
theorem x163 {E : mx_Ev} {n : Nat} {h : mx_H} {Q : Option mx_V → mx_H → Prop} {a1 : Int32} (hK : (xK_ip Q h) (f163 a1 h)) : mx_M E n 163 [.inr (.inl 0), .inl (.int a1)] h Q := by
  cases n with
  | zero => exact mx_L.zero
  | succ n => exact sl163_0 (x_use (x_eq (K := (xK_ip Q h)) (f163_eq a1 h) hK) (fun hK => (x157 (xh_i (fun _ => hK)))))
noncomputable def f150 (a1 : Int32) (a2 : Int32) (h : mx_H) : Int32 × mx_H := x_box (if (f161 a1) = 0 then (((-1) : Int32), h) else (if a2 = (-1) then (x_h (f70 a1 a2 h) (fun h5 => ((1 : Int32), h5))) else (if (f163 a2 h) ≠ 0 then (x_h (f70 a1 a2 h) (fun h10 => ((1 : Int32), h10))) else (((-1) : Int32), h))))
theorem f150_eq (a1 : Int32) (a2 : Int32) (h : mx_H) : f150 a1 a2 h = (if (f161 a1) = 0 then (((-1) : Int32), h) else (if a2 = (-1) then (x_h (f70 a1 a2 h) (fun h5 => ((1 : Int32), h5))) else (if (f163 a2 h) ≠ 0 then (x_h (f70 a1 a2 h) (fun h10 => ((1 : Int32), h10))) else (((-1) : Int32), h)))) := x_box_eq _
theorem x150 {E : mx_Ev} {n : Nat} {h : mx_H} {Q : Option mx_V → mx_H → Prop} {a1 : Int32} {a2 : Int32} (hK : (xK_i Q) (f150 a1 a2 h)) : mx_M E n 150 [.inr (.inl 0), .inl (.int a1), .inl (.int a2)] h Q := by
  cases n with
  | zero => exact mx_L.zero
  | succ n => exact sl150_0 (x_use (x_eq (K := (xK_i Q)) (f150_eq a1 a2 h) hK) (fun hK => (x161 (xh_i (x_ite hK (fun hK => hK) (fun hK => (x_ite hK (fun hK => (x70 (xh_n (x_hk hK (fun hK => hK))))) (fun hK => (x163 (xh_i (x_ite hK (fun hK => (x70 (xh_n (x_hk hK (fun hK => hK))))) (fun hK => hK))))))))))))
noncomputable def f151 (a1 : Int32) (a2 : Int32) (a3 : Int32) (h : mx_H) : Int32 × mx_H := x_box (if (f161 a1) = 0 then (((-1) : Int32), h) else (if (f157 a2 0 4) = 0 then (((-1) : Int32), h) else (if a3 ≤ 60 then (if 0 ≤ a3 then (x_h (f71 a1 a2 a3 h) (fun h8 => ((1 : Int32), h8))) else (((-14) : Int32), h)) else (((-1) : Int32), h))))
theorem f151_eq (a1 : Int32) (a2 : Int32) (a3 : Int32) (h : mx_H) : f151 a1 a2 a3 h = (if (f161 a1) = 0 then (((-1) : Int32), h) else (if (f157 a2 0 4) = 0 then (((-1) : Int32), h) else (if a3 ≤ 60 then (if 0 ≤ a3 then (x_h (f71 a1 a2 a3 h) (fun h8 => ((1 : Int32), h8))) else (((-14) : Int32), h)) else (((-1) : Int32), h)))) := x_box_eq _
theorem x151 {E : mx_Ev} {n : Nat} {h : mx_H} {Q : Option mx_V → mx_H → Prop} {a1 : Int32} {a2 : Int32} {a3 : Int32} (hK : (xK_i Q) (f151 a1 a2 a3 h)) : mx_M E n 151 [.inr (.inl 0), .inl (.int a1), .inl (.int a2), .inl (.int a3)] h Q := by
  cases n with
  | zero => exact mx_L.zero
  | succ n => exact sl151_0 (x_use (x_eq (K := (xK_i Q)) (f151_eq a1 a2 a3 h) hK) (fun hK => (x161 (xh_i (x_ite hK (fun hK => hK) (fun hK => (x157 (xh_i (x_ite hK (fun hK => hK) (fun hK => (x_ite hK (fun hK => (x_ite hK (fun hK => (x71 (xh_n (x_hk hK (fun hK => hK))))) (fun hK => hK))) (fun hK => hK))))))))))))
noncomputable def f152 (a1 : Int32) (a2 : Int32) (a3 : Int64) (h : mx_H) : Int32 × mx_H := x_box (if (f161 a1) ≠ 0 then (x_val (f72 a1 h) (fun x6 => (if x6 = 0 then (if (f74 a1 a2 h) ≠ 0 then (x_h (f76 a1 a2 a3 h) (fun h11 => ((1 : Int32), h11))) else (((-13) : Int32), h)) else ((x6 : Int32), h)))) else (((-1) : Int32), h))
noncomputable def f153 (a1 : Int32) (a2 : Int32) (h : mx_H) : Int64 := x_box (if (f161 a1) = 0 then ((-9223372036854775808) : Int64) else (if (f72 a1 h) ≠ 0 then ((-9223372036854775808) : Int64) else (if (f74 a1 a2 h) ≠ 0 then (h.2.2.1 (.inr ((Int32.toNatClampNeg a1), 20)) (Int32.toNatClampNeg a2) : Int64) else ((-9223372036854775808) : Int64))))
theorem f153_eq (a1 : Int32) (a2 : Int32) (h : mx_H) : f153 a1 a2 h = (if (f161 a1) = 0 then ((-9223372036854775808) : Int64) else (if (f72 a1 h) ≠ 0 then ((-9223372036854775808) : Int64) else (if (f74 a1 a2 h) ≠ 0 then (h.2.2.1 (.inr ((Int32.toNatClampNeg a1), 20)) (Int32.toNatClampNeg a2) : Int64) else ((-9223372036854775808) : Int64)))) := x_box_eq _
theorem x153 {E : mx_Ev} {n : Nat} {h : mx_H} {Q : Option mx_V → mx_H → Prop} {a1 : Int32} {a2 : Int32} (hK : (xK_lp Q h) (f153 a1 a2 h)) : mx_M E n 153 [.inr (.inl 0), .inl (.int a1), .inl (.int a2)] h Q := by
  cases n with
  | zero => exact mx_L.zero
  | succ n => exact sl153_0 (x_use (x_eq (K := (xK_lp Q h)) (f153_eq a1 a2 h) hK) (fun hK => (x161 (xh_i (x_ite hK (fun hK => hK) (fun hK => (x72 (xh_i (x_ite hK (fun hK => hK) (fun hK => (x74 (xh_i (x_ite hK (fun hK => (fun _ => (fun _ => hK))) (fun hK => hK))))))))))))))
noncomputable def f155 (a1 : Int32) (a2 : Int32) (h : mx_H) : Int32 := x_box (if (f161 a1) = 0 then ((-1) : Int32) else (if (f162 a2) ≠ 0 then (if (h.2.1 (.inl 95) (Int32.toNatClampNeg a1)) ≠ (-2) then (if (h.2.1 (.inl 95) (Int32.toNatClampNeg a1)) ≠ (-1) then ((-12) : Int32) else (if (f163 (h.2.1 (.inl 97) (Int32.toNatClampNeg a1)) h) ≠ 0 then (if (f38 (h.2.1 (.inl 91) (Int32.toNatClampNeg (h.2.1 (.inl 97) (Int32.toNatClampNeg a1)))) a2 h) = 0 then ((-12) : Int32) else (h.2.1 (.inl 91) (Int32.toNatClampNeg (h.2.1 (.inl 97) (Int32.toNatClampNeg a1))) : Int32)) else ((-12) : Int32))) else ((-11) : Int32)) else ((-1) : Int32)))
noncomputable def b156 : ((mx_H) ⊕ (mx_H) ⊕ (mx_H) ⊕ (mx_H) ⊕ (mx_H) ⊕ (mx_H) ⊕ (mx_H)) → ((mx_H) ⊕ (mx_H) ⊕ (mx_H) ⊕ (mx_H) ⊕ (mx_H) ⊕ (mx_H) ⊕ (mx_H)) ⊕ (Int32)
  | (.inl h) => (Sum.inr (h.2.1 (.inl 0) 2 : Int32))
  | (.inr (.inl h)) => (Sum.inr (h.2.1 (.inl 90) 0 : Int32))
  | (.inr (.inr (.inl h))) => (Sum.inr (h.2.1 (.inl 1) 1 : Int32))
  | (.inr (.inr (.inr (.inl h)))) => (Sum.inr (h.2.1 (.inl 84) 0 : Int32))
  | (.inr (.inr (.inr (.inr (.inl h))))) => (Sum.inr (h.2.1 (.inl 90) 3 : Int32))
  | (.inr (.inr (.inr (.inr (.inr (.inl h)))))) => (Sum.inr (h.2.1 (.inl 71) 2 : Int32))
  | (.inr (.inr (.inr (.inr (.inr (.inr h)))))) => (Sum.inr ((-1) : Int32))
noncomputable def g156_40  (h : mx_H) : Int32 := ml_wh b156 (.inl h)
noncomputable def g156_45  (h : mx_H) : Int32 := ml_wh b156 (.inr (.inl h))
noncomputable def g156_53  (h : mx_H) : Int32 := ml_wh b156 (.inr (.inr (.inl h)))
noncomputable def g156_61  (h : mx_H) : Int32 := ml_wh b156 (.inr (.inr (.inr (.inl h))))
noncomputable def g156_69  (h : mx_H) : Int32 := ml_wh b156 (.inr (.inr (.inr (.inr (.inl h)))))
noncomputable def g156_77  (h : mx_H) : Int32 := ml_wh b156 (.inr (.inr (.inr (.inr (.inr (.inl h))))))
noncomputable def g156_85  (h : mx_H) : Int32 := ml_wh b156 (.inr (.inr (.inr (.inr (.inr (.inr h))))))
theorem g156_40_eq  (h : mx_H) : g156_40  h = (h.2.1 (.inl 0) 2 : Int32) := by
  unfold g156_40
  rw [ml_wh_eq]
  simp only [b156, ml_go_ite, ml_go_l, ml_go_r, ml_go_opt, ml_go_let, ml_go_h, ml_go_val]
  try rfl
theorem g156_45_eq  (h : mx_H) : g156_45  h = (h.2.1 (.inl 90) 0 : Int32) := by
  unfold g156_45
  rw [ml_wh_eq]
  simp only [b156, ml_go_ite, ml_go_l, ml_go_r, ml_go_opt, ml_go_let, ml_go_h, ml_go_val]
  try rfl
theorem g156_53_eq  (h : mx_H) : g156_53  h = (h.2.1 (.inl 1) 1 : Int32) := by
  unfold g156_53
  rw [ml_wh_eq]
  simp only [b156, ml_go_ite, ml_go_l, ml_go_r, ml_go_opt, ml_go_let, ml_go_h, ml_go_val]
  try rfl
theorem g156_61_eq  (h : mx_H) : g156_61  h = (h.2.1 (.inl 84) 0 : Int32) := by
  unfold g156_61
  rw [ml_wh_eq]
  simp only [b156, ml_go_ite, ml_go_l, ml_go_r, ml_go_opt, ml_go_let, ml_go_h, ml_go_val]
  try rfl
theorem g156_69_eq  (h : mx_H) : g156_69  h = (h.2.1 (.inl 90) 3 : Int32) := by
  unfold g156_69
  rw [ml_wh_eq]
  simp only [b156, ml_go_ite, ml_go_l, ml_go_r, ml_go_opt, ml_go_let, ml_go_h, ml_go_val]
  try rfl
theorem g156_77_eq  (h : mx_H) : g156_77  h = (h.2.1 (.inl 71) 2 : Int32) := by
  unfold g156_77
  rw [ml_wh_eq]
  simp only [b156, ml_go_ite, ml_go_l, ml_go_r, ml_go_opt, ml_go_let, ml_go_h, ml_go_val]
  try rfl
theorem g156_85_eq  (h : mx_H) : g156_85  h = ((-1) : Int32) := by
  unfold g156_85
  rw [ml_wh_eq]
  simp only [b156, ml_go_ite, ml_go_l, ml_go_r, ml_go_opt, ml_go_let, ml_go_h, ml_go_val]
  try rfl
noncomputable def f156 (a1 : Int32) (h : mx_H) : Int32 := x_box (if a1 = 0 then (g156_40  h) else (if a1 = 1 then (g156_45  h) else (if a1 = 2 then (g156_53  h) else (if a1 = 3 then (g156_61  h) else (if a1 = 4 then (g156_69  h) else (if a1 = 5 then (g156_77  h) else (g156_85  h)))))))
theorem f156_eq (a1 : Int32) (h : mx_H) : f156 a1 h = (if a1 = 0 then (g156_40  h) else (if a1 = 1 then (g156_45  h) else (if a1 = 2 then (g156_53  h) else (if a1 = 3 then (g156_61  h) else (if a1 = 4 then (g156_69  h) else (if a1 = 5 then (g156_77  h) else (g156_85  h))))))) := x_box_eq _
theorem xw156 {E : mx_Ev} {Q : Option mx_V → mx_H → Prop} : ∀ n : Nat, (∀ (h : mx_H), (xK_ip Q h) (g156_40  h) → mx_L E n 156 40 [(0, .inr (.inl 0))] [] h Q) ∧ (∀ (h : mx_H), (xK_ip Q h) (g156_45  h) → mx_L E n 156 45 [(0, .inr (.inl 0))] [] h Q) ∧ (∀ (h : mx_H), (xK_ip Q h) (g156_53  h) → mx_L E n 156 53 [(0, .inr (.inl 0))] [] h Q) ∧ (∀ (h : mx_H), (xK_ip Q h) (g156_61  h) → mx_L E n 156 61 [(0, .inr (.inl 0))] [] h Q) ∧ (∀ (h : mx_H), (xK_ip Q h) (g156_69  h) → mx_L E n 156 69 [(0, .inr (.inl 0))] [] h Q) ∧ (∀ (h : mx_H), (xK_ip Q h) (g156_77  h) → mx_L E n 156 77 [(0, .inr (.inl 0))] [] h Q) ∧ (∀ (h : mx_H), (xK_ip Q h) (g156_85  h) → mx_L E n 156 85 [] [] h Q)
  | 0 => ⟨fun _ _ => mx_L.zero, fun _ _ => mx_L.zero, fun _ _ => mx_L.zero, fun _ _ => mx_L.zero, fun _ _ => mx_L.zero, fun _ _ => mx_L.zero, fun _ _ => mx_L.zero⟩
  | n + 1 => ⟨fun h hK => sl156_40 (x_use (x_eq (K := (xK_ip Q h)) (g156_40_eq  h) hK) (fun hK => hK)), fun h hK => sl156_45 (x_use (x_eq (K := (xK_ip Q h)) (g156_45_eq  h) hK) (fun hK => hK)), fun h hK => sl156_53 (x_use (x_eq (K := (xK_ip Q h)) (g156_53_eq  h) hK) (fun hK => hK)), fun h hK => sl156_61 (x_use (x_eq (K := (xK_ip Q h)) (g156_61_eq  h) hK) (fun hK => hK)), fun h hK => sl156_69 (x_use (x_eq (K := (xK_ip Q h)) (g156_69_eq  h) hK) (fun hK => hK)), fun h hK => sl156_77 (x_use (x_eq (K := (xK_ip Q h)) (g156_77_eq  h) hK) (fun hK => hK)), fun h hK => sl156_85 (x_use (x_eq (K := (xK_ip Q h)) (g156_85_eq  h) hK) (fun hK => hK))⟩
theorem x156 {E : mx_Ev} {n : Nat} {h : mx_H} {Q : Option mx_V → mx_H → Prop} {a1 : Int32} (hK : (xK_ip Q h) (f156 a1 h)) : mx_M E n 156 [.inr (.inl 0), .inl (.int a1)] h Q := by
  cases n with
  | zero => exact mx_L.zero
  | succ n => exact sl156_0 (x_use (x_eq (K := (xK_ip Q h)) (f156_eq a1 h) hK) (fun hK => (fun tgt q => by
          rcases q with ⟨q, e⟩ | ⟨q1, q2, o, qo, e⟩
          · have e2 : tgt = 85 := by omega
            subst e2
            replace hK := x_neg (fun e => by rw [e] at q; revert q; decide) hK
            replace hK := x_neg (fun e => by rw [e] at q; revert q; decide) hK
            replace hK := x_neg (fun e => by rw [e] at q; revert q; decide) hK
            replace hK := x_neg (fun e => by rw [e] at q; revert q; decide) hK
            replace hK := x_neg (fun e => by rw [e] at q; revert q; decide) hK
            replace hK := x_neg (fun e => by rw [e] at q; revert q; decide) hK
            exact mx_L.sub (lv' := mx_nrm [] [(0, .inr (.inl 0)), (1, .inl (.int a1))]) mx_nrm_mem ((xw156 n).2.2.2.2.2.2 _ hK)
          · have hv : Int32.toInt a1 = 0 ∨ Int32.toInt a1 = 1 ∨ Int32.toInt a1 = 2 ∨ Int32.toInt a1 = 3 ∨ Int32.toInt a1 = 4 ∨ Int32.toInt a1 = 5 := by omega
            rcases hv with hv | hv | hv | hv | hv | hv
            · rw [hv] at qo
              have eo : o = 39 := (Option.some.inj (qo.symm.trans (rfl : _ = some (39 : Int))))
              have e2 : tgt = 40 := by omega
              subst e2
              replace hK := x_pos (Int32.toInt_inj.mp (hv.trans rfl)) hK
              exact mx_L.sub (lv' := mx_nrm [0] [(0, .inr (.inl 0)), (1, .inl (.int a1))]) mx_nrm_mem ((xw156 n).1 _ hK)
            · rw [hv] at qo
              have eo : o = 44 := (Option.some.inj (qo.symm.trans (rfl : _ = some (44 : Int))))
              have e2 : tgt = 45 := by omega
              subst e2
              replace hK := x_neg (fun e => by rw [e] at hv; revert hv; decide) hK
              replace hK := x_pos (Int32.toInt_inj.mp (hv.trans rfl)) hK
              exact mx_L.sub (lv' := mx_nrm [0] [(0, .inr (.inl 0)), (1, .inl (.int a1))]) mx_nrm_mem ((xw156 n).2.1 _ hK)
            · rw [hv] at qo
              have eo : o = 52 := (Option.some.inj (qo.symm.trans (rfl : _ = some (52 : Int))))
              have e2 : tgt = 53 := by omega
              subst e2
              replace hK := x_neg (fun e => by rw [e] at hv; revert hv; decide) hK
              replace hK := x_neg (fun e => by rw [e] at hv; revert hv; decide) hK
              replace hK := x_pos (Int32.toInt_inj.mp (hv.trans rfl)) hK
              exact mx_L.sub (lv' := mx_nrm [0] [(0, .inr (.inl 0)), (1, .inl (.int a1))]) mx_nrm_mem ((xw156 n).2.2.1 _ hK)
            · rw [hv] at qo
              have eo : o = 60 := (Option.some.inj (qo.symm.trans (rfl : _ = some (60 : Int))))
              have e2 : tgt = 61 := by omega
              subst e2
              replace hK := x_neg (fun e => by rw [e] at hv; revert hv; decide) hK
              replace hK := x_neg (fun e => by rw [e] at hv; revert hv; decide) hK
              replace hK := x_neg (fun e => by rw [e] at hv; revert hv; decide) hK
              replace hK := x_pos (Int32.toInt_inj.mp (hv.trans rfl)) hK
              exact mx_L.sub (lv' := mx_nrm [0] [(0, .inr (.inl 0)), (1, .inl (.int a1))]) mx_nrm_mem ((xw156 n).2.2.2.1 _ hK)
            · rw [hv] at qo
              have eo : o = 68 := (Option.some.inj (qo.symm.trans (rfl : _ = some (68 : Int))))
              have e2 : tgt = 69 := by omega
              subst e2
              replace hK := x_neg (fun e => by rw [e] at hv; revert hv; decide) hK
              replace hK := x_neg (fun e => by rw [e] at hv; revert hv; decide) hK
              replace hK := x_neg (fun e => by rw [e] at hv; revert hv; decide) hK
              replace hK := x_neg (fun e => by rw [e] at hv; revert hv; decide) hK
              replace hK := x_pos (Int32.toInt_inj.mp (hv.trans rfl)) hK
              exact mx_L.sub (lv' := mx_nrm [0] [(0, .inr (.inl 0)), (1, .inl (.int a1))]) mx_nrm_mem ((xw156 n).2.2.2.2.1 _ hK)
            · rw [hv] at qo
              have eo : o = 76 := (Option.some.inj (qo.symm.trans (rfl : _ = some (76 : Int))))
              have e2 : tgt = 77 := by omega
              subst e2
              replace hK := x_neg (fun e => by rw [e] at hv; revert hv; decide) hK
              replace hK := x_neg (fun e => by rw [e] at hv; revert hv; decide) hK
              replace hK := x_neg (fun e => by rw [e] at hv; revert hv; decide) hK
              replace hK := x_neg (fun e => by rw [e] at hv; revert hv; decide) hK
              replace hK := x_neg (fun e => by rw [e] at hv; revert hv; decide) hK
              replace hK := x_pos (Int32.toInt_inj.mp (hv.trans rfl)) hK
              exact mx_L.sub (lv' := mx_nrm [0] [(0, .inr (.inl 0)), (1, .inl (.int a1))]) mx_nrm_mem ((xw156 n).2.2.2.2.2.1 _ hK))))
noncomputable def f173 (a0 : Int32) (a1 : Int32) (a2 : Int32) : Int32 := x_box (if a0 < a1 then (0 : Int32) else (if a2 < a0 then (0 : Int32) else (1 : Int32)))
theorem f173_eq (a0 : Int32) (a1 : Int32) (a2 : Int32) : f173 a0 a1 a2 = (if a0 < a1 then (0 : Int32) else (if a2 < a0 then (0 : Int32) else (1 : Int32))) := x_box_eq _
theorem x173 {E : mx_Ev} {n : Nat} {h : mx_H} {Q : Option mx_V → mx_H → Prop} {a0 : Int32} {a1 : Int32} {a2 : Int32} (hK : (xK_ip Q h) (f173 a0 a1 a2)) : mx_M E n 173 [.inl (.int a0), .inl (.int a1), .inl (.int a2)] h Q := by
  cases n with
  | zero => exact mx_L.zero
  | succ n => exact sl173_0 (x_use (x_eq (K := (xK_ip Q h)) (f173_eq a0 a1 a2) hK) (fun hK => (x_ite hK (fun hK => (fun _ => hK)) (fun hK => (x_ite hK (fun hK => (fun _ => hK)) (fun hK => (fun _ => hK)))))))
noncomputable def f174 (a0 : Int32) (a1 : Int32) : Int32 := x_box (if a1 ≤ a0 then (a1 : Int32) else (a0 : Int32))
theorem f174_eq (a0 : Int32) (a1 : Int32) : f174 a0 a1 = (if a1 ≤ a0 then (a1 : Int32) else (a0 : Int32)) := x_box_eq _
theorem x174 {E : mx_Ev} {n : Nat} {h : mx_H} {Q : Option mx_V → mx_H → Prop} {a0 : Int32} {a1 : Int32} (hK : (xK_ip Q h) (f174 a0 a1)) : mx_M E n 174 [.inl (.int a0), .inl (.int a1)] h Q := by
  cases n with
  | zero => exact mx_L.zero
  | succ n => exact sl174_0 (x_use (x_eq (K := (xK_ip Q h)) (f174_eq a0 a1) hK) (fun hK => (x_ite hK (fun hK => hK) (fun hK => hK))))
noncomputable def f175 (a0 : Int32) (a1 : Int32) : Int32 := x_box (if a0 ≤ a1 then (a1 : Int32) else (a0 : Int32))
theorem f175_eq (a0 : Int32) (a1 : Int32) : f175 a0 a1 = (if a0 ≤ a1 then (a1 : Int32) else (a0 : Int32)) := x_box_eq _
theorem x175 {E : mx_Ev} {n : Nat} {h : mx_H} {Q : Option mx_V → mx_H → Prop} {a0 : Int32} {a1 : Int32} (hK : (xK_ip Q h) (f175 a0 a1)) : mx_M E n 175 [.inl (.int a0), .inl (.int a1)] h Q := by
  cases n with
  | zero => exact mx_L.zero
  | succ n => exact sl175_0 (x_use (x_eq (K := (xK_ip Q h)) (f175_eq a0 a1) hK) (fun hK => (x_ite hK (fun hK => hK) (fun hK => hK))))
noncomputable def f176 (a0 : Int32) : Int32 := x_box (if 0 ≤ a0 then (a0 : Int32) else (-a0 : Int32))
theorem f176_eq (a0 : Int32) : f176 a0 = (if 0 ≤ a0 then (a0 : Int32) else (-a0 : Int32)) := x_box_eq _
theorem x176 {E : mx_Ev} {n : Nat} {h : mx_H} {Q : Option mx_V → mx_H → Prop} {a0 : Int32} (hK : (xK_ip Q h) (f176 a0)) : mx_M E n 176 [.inl (.int a0)] h Q := by
  cases n with
  | zero => exact mx_L.zero
  | succ n => exact sl176_0 (x_use (x_eq (K := (xK_ip Q h)) (f176_eq a0) hK) (fun hK => (x_ite hK (fun hK => hK) (fun hK => hK))))
noncomputable def f177 (a1 : Int32) (h : mx_H) : Int32 := x_box ((f173 a1 0 ((h.2.1 (.inl 105) 1) - 1)) : Int32)
theorem f177_eq (a1 : Int32) (h : mx_H) : f177 a1 h = ((f173 a1 0 ((h.2.1 (.inl 105) 1) - 1)) : Int32) := x_box_eq _
theorem x177 {E : mx_Ev} {n : Nat} {h : mx_H} {Q : Option mx_V → mx_H → Prop} {a1 : Int32} (hK : (xK_ip Q h) (f177 a1 h)) : mx_M E n 177 [.inr (.inl 105), .inl (.int a1)] h Q := by
  cases n with
  | zero => exact mx_L.zero
  | succ n => exact sl177_0 (x_use (x_eq (K := (xK_ip Q h)) (f177_eq a1 h) hK) (fun hK => (x173 (xh_i (fun _ => hK)))))
noncomputable def f178 (a1 : Int32) (a2 : Int32) (h : mx_H) : Int32 := x_box ((f173 a2 0 ((h.2.1 (.inl 106) (Int32.toNatClampNeg a1)) - 1)) : Int32)
theorem f178_eq (a1 : Int32) (a2 : Int32) (h : mx_H) : f178 a1 a2 h = ((f173 a2 0 ((h.2.1 (.inl 106) (Int32.toNatClampNeg a1)) - 1)) : Int32) := x_box_eq _
theorem x178 {E : mx_Ev} {n : Nat} {h : mx_H} {Q : Option mx_V → mx_H → Prop} {a1 : Int32} {a2 : Int32} (hK : (xK_ip Q h) (f178 a1 a2 h)) : mx_M E n 178 [.inr (.inl 105), .inl (.int a1), .inl (.int a2)] h Q := by
  cases n with
  | zero => exact mx_L.zero
  | succ n => exact sl178_0 (x_use (x_eq (K := (xK_ip Q h)) (f178_eq a1 a2 h) hK) (fun hK => (fun _ => (x173 (xh_i (fun _ => hK))))))
noncomputable def f179 (a0 : Int32) (a1 : Int32) (a2 : Int32) : Int32 := x_box (((36 * a0) + (6 * a1)) + a2 : Int32)
theorem f179_eq (a0 : Int32) (a1 : Int32) (a2 : Int32) : f179 a0 a1 a2 = (((36 * a0) + (6 * a1)) + a2 : Int32) := x_box_eq _
theorem x179 {E : mx_Ev} {n : Nat} {h : mx_H} {Q : Option mx_V → mx_H → Prop} {a0 : Int32} {a1 : Int32} {a2 : Int32} (hK : (xK_ip Q h) (f179 a0 a1 a2)) : mx_M E n 179 [.inl (.int a0), .inl (.int a1), .inl (.int a2)] h Q := by
  cases n with
  | zero => exact mx_L.zero
  | succ n => exact sl179_0 (x_use (x_eq (K := (xK_ip Q h)) (f179_eq a0 a1 a2) hK) (fun hK => hK))
noncomputable def f180 (a1 : Int32) (a2 : Int32) (a3 : Int32) (h : mx_H) : Int32 := x_box (if (h.2.1 (.inl 113) (Int32.toNatClampNeg (f179 a1 a2 a3))) ≤ 0 then (0 : Int32) else (1 : Int32))
theorem f180_eq (a1 : Int32) (a2 : Int32) (a3 : Int32) (h : mx_H) : f180 a1 a2 a3 h = (if (h.2.1 (.inl 113) (Int32.toNatClampNeg (f179 a1 a2 a3))) ≤ 0 then (0 : Int32) else (1 : Int32)) := x_box_eq _
theorem x180 {E : mx_Ev} {n : Nat} {h : mx_H} {Q : Option mx_V → mx_H → Prop} {a1 : Int32} {a2 : Int32} {a3 : Int32} (hK : (xK_ip Q h) (f180 a1 a2 a3 h)) : mx_M E n 180 [.inr (.inl 105), .inl (.int a1), .inl (.int a2), .inl (.int a3)] h Q := by
  cases n with
  | zero => exact mx_L.zero
  | succ n => exact sl180_0 (x_use (x_eq (K := (xK_ip Q h)) (f180_eq a1 a2 a3 h) hK) (fun hK => (x179 (xh_i (fun _ => (x_ite hK (fun hK => (fun _ => hK)) (fun hK => (fun _ => hK))))))))
noncomputable def b181 : ((Int32 × Int32 × Int32 × Int32 × Int32 × Int32 × Int32 × mx_H)) → ((Int32 × Int32 × Int32 × Int32 × Int32 × Int32 × Int32 × mx_H)) ⊕ (mx_H)
  | (a1, a2, a3, a4, a5, a6, a7, h) => (if 2 ≤ a7 then (Sum.inr h) else (if a7 ≠ 0 then (x_val (f179 a1 a3 a2) (fun x3 => (Sum.inl (a1, a2, a3, a4, a5, a6, (a7 + 1), mx_uI (mx_uI (mx_uI h (.inl 113) (Int32.toNatClampNeg x3) (a4 + 1)) (.inl 111) (Int32.toNatClampNeg x3) a5) (.inl 112) (Int32.toNatClampNeg x3) a6)))) else (x_val (f179 a1 a2 a3) (fun x6 => (Sum.inl (a1, a2, a3, a4, a5, a6, (a7 + 1), mx_uI (mx_uI (mx_uI h (.inl 113) (Int32.toNatClampNeg x6) (a4 + 1)) (.inl 111) (Int32.toNatClampNeg x6) a5) (.inl 112) (Int32.toNatClampNeg x6) a6))))))
noncomputable def g181_3 (a1 : Int32) (a2 : Int32) (a3 : Int32) (a4 : Int32) (a5 : Int32) (a6 : Int32) (a7 : Int32) (h : mx_H) : mx_H := ml_wh b181 (a1, a2, a3, a4, a5, a6, a7, h)
theorem g181_3_eq (a1 : Int32) (a2 : Int32) (a3 : Int32) (a4 : Int32) (a5 : Int32) (a6 : Int32) (a7 : Int32) (h : mx_H) : g181_3 a1 a2 a3 a4 a5 a6 a7 h = (if 2 ≤ a7 then h else (if a7 ≠ 0 then (x_val (f179 a1 a3 a2) (fun x3 => (g181_3 a1 a2 a3 a4 a5 a6 (a7 + 1) (mx_uI (mx_uI (mx_uI h (.inl 113) (Int32.toNatClampNeg x3) (a4 + 1)) (.inl 111) (Int32.toNatClampNeg x3) a5) (.inl 112) (Int32.toNatClampNeg x3) a6)))) else (x_val (f179 a1 a2 a3) (fun x6 => (g181_3 a1 a2 a3 a4 a5 a6 (a7 + 1) (mx_uI (mx_uI (mx_uI h (.inl 113) (Int32.toNatClampNeg x6) (a4 + 1)) (.inl 111) (Int32.toNatClampNeg x6) a5) (.inl 112) (Int32.toNatClampNeg x6) a6)))))) := by
  unfold g181_3
  rw [ml_wh_eq]
  simp only [b181, ml_go_ite, ml_go_l, ml_go_r, ml_go_opt, ml_go_let, ml_go_h, ml_go_val]
  try rfl
noncomputable def f181 (a1 : Int32) (a2 : Int32) (a3 : Int32) (a4 : Int32) (a5 : Int32) (a6 : Int32) (h : mx_H) : mx_H := x_box (g181_3 a1 a2 a3 a4 a5 a6 0 h)
theorem f181_eq (a1 : Int32) (a2 : Int32) (a3 : Int32) (a4 : Int32) (a5 : Int32) (a6 : Int32) (h : mx_H) : f181 a1 a2 a3 a4 a5 a6 h = (g181_3 a1 a2 a3 a4 a5 a6 0 h) := x_box_eq _
theorem xw181 {E : mx_Ev} {Q : Option mx_V → mx_H → Prop} : ∀ n : Nat, (∀ (a1 : Int32) (a2 : Int32) (a3 : Int32) (a4 : Int32) (a5 : Int32) (a6 : Int32) (a7 : Int32) (h : mx_H), (xK_v Q) (g181_3 a1 a2 a3 a4 a5 a6 a7 h) → mx_L E n 181 3 [(0, .inr (.inl 105)), (1, .inl (.int a1)), (2, .inl (.int a2)), (3, .inl (.int a3)), (4, .inl (.int a4)), (5, .inl (.int a5)), (6, .inl (.int a6)), (7, .inl (.int a7))] [] h Q)
  | 0 => fun _ _ _ _ _ _ _ _ _ => mx_L.zero
  | n + 1 => fun a1 a2 a3 a4 a5 a6 a7 h hK => sl181_3 (x_use (x_eq (K := (xK_v Q)) (g181_3_eq a1 a2 a3 a4 a5 a6 a7 h) hK) (fun hK => (x_ite hK (fun hK => hK) (fun hK => (x_ite hK (fun hK => (x179 (xh_i (x_valk hK (fun hK => (fun _ => (fun _ => (fun _ => ((xw181 n) _ _ _ _ _ _ _ _ hK))))))))) (fun hK => (x179 (xh_i (x_valk hK (fun hK => (fun _ => (fun _ => (fun _ => ((xw181 n) _ _ _ _ _ _ _ _ hK))))))))))))))
theorem x181 {E : mx_Ev} {n : Nat} {h : mx_H} {Q : Option mx_V → mx_H → Prop} {a1 : Int32} {a2 : Int32} {a3 : Int32} {a4 : Int32} {a5 : Int32} {a6 : Int32} (hK : (xK_v Q) (f181 a1 a2 a3 a4 a5 a6 h)) : mx_M E n 181 [.inr (.inl 105), .inl (.int a1), .inl (.int a2), .inl (.int a3), .inl (.int a4), .inl (.int a5), .inl (.int a6)] h Q := by
  cases n with
  | zero => exact mx_L.zero
  | succ n => exact sl181_0 (x_use (x_eq (K := (xK_v Q)) (f181_eq a1 a2 a3 a4 a5 a6 h) hK) (fun hK => ((xw181 n) _ _ _ _ _ _ _ _ hK)))
noncomputable def b182 : ((Int32 × Int32 × mx_H) ⊕ (Int32 × Int32 × mx_H)) → ((Int32 × Int32 × mx_H) ⊕ (Int32 × Int32 × mx_H)) ⊕ (mx_H)
  | (.inl (a1, a2, h)) => (if 6 ≤ a2 then (Sum.inl (.inr (a1, (36 * a1), h))) else (Sum.inl (.inl (a1, (a2 + 1), mx_uI (mx_uI (mx_uI (mx_uI h (.inl 107) (Int32.toNatClampNeg ((6 * a1) + a2)) 0) (.inl 108) (Int32.toNatClampNeg ((6 * a1) + a2)) 0) (.inl 109) (Int32.toNatClampNeg ((6 * a1) + a2)) 0) (.inl 110) (Int32.toNatClampNeg ((6 * a1) + a2)) (vp_nar .boolean 0)))))
  | (.inr (a1, a2, h)) => (if ((36 * a1) + 36) ≤ a2 then (Sum.inr h) else (Sum.inl (.inr (a1, (a2 + 1), mx_uI (mx_uI (mx_uI h (.inl 113) (Int32.toNatClampNeg a2) 0) (.inl 111) (Int32.toNatClampNeg a2) 0) (.inl 112) (Int32.toNatClampNeg a2) 0))))
noncomputable def g182_9 (a1 : Int32) (a2 : Int32) (h : mx_H) : mx_H := ml_wh b182 (.inl (a1, a2, h))
noncomputable def g182_74 (a1 : Int32) (a2 : Int32) (h : mx_H) : mx_H := ml_wh b182 (.inr (a1, a2, h))
theorem g182_9_eq (a1 : Int32) (a2 : Int32) (h : mx_H) : g182_9 a1 a2 h = (if 6 ≤ a2 then (g182_74 a1 (36 * a1) h) else (g182_9 a1 (a2 + 1) (mx_uI (mx_uI (mx_uI (mx_uI h (.inl 107) (Int32.toNatClampNeg ((6 * a1) + a2)) 0) (.inl 108) (Int32.toNatClampNeg ((6 * a1) + a2)) 0) (.inl 109) (Int32.toNatClampNeg ((6 * a1) + a2)) 0) (.inl 110) (Int32.toNatClampNeg ((6 * a1) + a2)) (vp_nar .boolean 0)))) := by
  unfold g182_9
  rw [ml_wh_eq]
  simp only [b182, ml_go_ite, ml_go_l, ml_go_r, ml_go_opt, ml_go_let, ml_go_h, ml_go_val]
  try rfl
theorem g182_74_eq (a1 : Int32) (a2 : Int32) (h : mx_H) : g182_74 a1 a2 h = (if ((36 * a1) + 36) ≤ a2 then h else (g182_74 a1 (a2 + 1) (mx_uI (mx_uI (mx_uI h (.inl 113) (Int32.toNatClampNeg a2) 0) (.inl 111) (Int32.toNatClampNeg a2) 0) (.inl 112) (Int32.toNatClampNeg a2) 0))) := by
  unfold g182_74
  rw [ml_wh_eq]
  simp only [b182, ml_go_ite, ml_go_l, ml_go_r, ml_go_opt, ml_go_let, ml_go_h, ml_go_val]
  try rfl
noncomputable def f182 (a1 : Int32) (h : mx_H) : mx_H := x_box (g182_9 a1 0 (mx_uI h (.inl 106) (Int32.toNatClampNeg a1) 0))
theorem f182_eq (a1 : Int32) (h : mx_H) : f182 a1 h = (g182_9 a1 0 (mx_uI h (.inl 106) (Int32.toNatClampNeg a1) 0)) := x_box_eq _
theorem xw182 {E : mx_Ev} {Q : Option mx_V → mx_H → Prop} : ∀ n : Nat, (∀ (a1 : Int32) (a2 : Int32) (h : mx_H), (xK_v Q) (g182_9 a1 a2 h) → mx_L E n 182 9 [(0, .inr (.inl 105)), (1, .inl (.int a1)), (2, .inl (.int a2))] [] h Q) ∧ (∀ (a1 : Int32) (a2 : Int32) (h : mx_H), (xK_v Q) (g182_74 a1 a2 h) → mx_L E n 182 74 [(0, .inr (.inl 105)), (1, .inl (.int a1)), (2, .inl (.int a2))] [] h Q)
  | 0 => ⟨fun _ _ _ _ => mx_L.zero, fun _ _ _ _ => mx_L.zero⟩
  | n + 1 => ⟨fun a1 a2 h hK => sl182_9 (x_use (x_eq (K := (xK_v Q)) (g182_9_eq a1 a2 h) hK) (fun hK => (x_ite hK (fun hK => ((xw182 n).2 _ _ _ hK)) (fun hK => (fun _ => (fun _ => (fun _ => (fun _ => ((xw182 n).1 _ _ _ hK))))))))), fun a1 a2 h hK => sl182_74 (x_use (x_eq (K := (xK_v Q)) (g182_74_eq a1 a2 h) hK) (fun hK => (x_ite hK (fun hK => hK) (fun hK => (fun _ => (fun _ => (fun _ => ((xw182 n).2 _ _ _ hK))))))))⟩
theorem x182 {E : mx_Ev} {n : Nat} {h : mx_H} {Q : Option mx_V → mx_H → Prop} {a1 : Int32} (hK : (xK_v Q) (f182 a1 h)) : mx_M E n 182 [.inr (.inl 105), .inl (.int a1)] h Q := by
  cases n with
  | zero => exact mx_L.zero
  | succ n => exact sl182_0 (x_use (x_eq (K := (xK_v Q)) (f182_eq a1 h) hK) (fun hK => (fun _ => ((xw182 n).1 _ _ _ hK))))
noncomputable def b183 : ((Int32 × Int32 × Int32 × mx_H) ⊕ (Int32 × Int32 × Int32 × Int32 × mx_H)) → ((Int32 × Int32 × Int32 × mx_H) ⊕ (Int32 × Int32 × Int32 × Int32 × mx_H)) ⊕ (Int32)
  | (.inl (a1, a2, a3, h)) => (if 6 ≤ a3 then (Sum.inr (a2 : Int32)) else (Sum.inl (.inr (a1, a2, a3, (a3 + 1), h))))
  | (.inr (a1, a2, a3, a4, h)) => (if 6 ≤ a4 then (Sum.inl (.inl (a1, a2, (a3 + 1), h))) else (if (f180 a1 a3 a4 h) = 0 then (Sum.inl (.inr (a1, (a2 + 0), a3, (a4 + 1), h))) else (Sum.inl (.inr (a1, (a2 + 1), a3, (a4 + 1), h)))))
noncomputable def g183_4 (a1 : Int32) (a2 : Int32) (a3 : Int32) (h : mx_H) : Int32 := ml_wh b183 (.inl (a1, a2, a3, h))
noncomputable def g183_15 (a1 : Int32) (a2 : Int32) (a3 : Int32) (a4 : Int32) (h : mx_H) : Int32 := ml_wh b183 (.inr (a1, a2, a3, a4, h))
theorem g183_4_eq (a1 : Int32) (a2 : Int32) (a3 : Int32) (h : mx_H) : g183_4 a1 a2 a3 h = (if 6 ≤ a3 then (a2 : Int32) else (g183_15 a1 a2 a3 (a3 + 1) h)) := by
  unfold g183_4
  rw [ml_wh_eq]
  simp only [b183, ml_go_ite, ml_go_l, ml_go_r, ml_go_opt, ml_go_let, ml_go_h, ml_go_val]
  try rfl
theorem g183_15_eq (a1 : Int32) (a2 : Int32) (a3 : Int32) (a4 : Int32) (h : mx_H) : g183_15 a1 a2 a3 a4 h = (if 6 ≤ a4 then (g183_4 a1 a2 (a3 + 1) h) else (if (f180 a1 a3 a4 h) = 0 then (g183_15 a1 (a2 + 0) a3 (a4 + 1) h) else (g183_15 a1 (a2 + 1) a3 (a4 + 1) h))) := by
  unfold g183_15
  rw [ml_wh_eq]
  simp only [b183, ml_go_ite, ml_go_l, ml_go_r, ml_go_opt, ml_go_let, ml_go_h, ml_go_val]
  try rfl
noncomputable def f183 (a1 : Int32) (h : mx_H) : Int32 := x_box (g183_4 a1 0 0 h)
theorem f183_eq (a1 : Int32) (h : mx_H) : f183 a1 h = (g183_4 a1 0 0 h) := x_box_eq _
theorem xw183 {E : mx_Ev} {Q : Option mx_V → mx_H → Prop} : ∀ n : Nat, (∀ (a1 : Int32) (a2 : Int32) (a3 : Int32) (h : mx_H), (xK_ip Q h) (g183_4 a1 a2 a3 h) → mx_L E n 183 4 [(0, .inr (.inl 105)), (1, .inl (.int a1)), (2, .inl (.int a2)), (3, .inl (.int a3))] [] h Q) ∧ (∀ (a1 : Int32) (a2 : Int32) (a3 : Int32) (a4 : Int32) (h : mx_H), (xK_ip Q h) (g183_15 a1 a2 a3 a4 h) → mx_L E n 183 15 [(0, .inr (.inl 105)), (1, .inl (.int a1)), (2, .inl (.int a2)), (3, .inl (.int a3)), (4, .inl (.int a4))] [] h Q)
  | 0 => ⟨fun _ _ _ _ _ => mx_L.zero, fun _ _ _ _ _ _ => mx_L.zero⟩
  | n + 1 => ⟨fun a1 a2 a3 h hK => sl183_4 (x_use (x_eq (K := (xK_ip Q h)) (g183_4_eq a1 a2 a3 h) hK) (fun hK => (x_ite hK (fun hK => hK) (fun hK => ((xw183 n).2 _ _ _ _ _ hK))))), fun a1 a2 a3 a4 h hK => sl183_15 (x_use (x_eq (K := (xK_ip Q h)) (g183_15_eq a1 a2 a3 a4 h) hK) (fun hK => (x_ite hK (fun hK => ((xw183 n).1 _ _ _ _ hK)) (fun hK => (x180 (xh_i (x_ite hK (fun hK => ((xw183 n).2 _ _ _ _ _ hK)) (fun hK => ((xw183 n).2 _ _ _ _ _ hK)))))))))⟩
theorem x183 {E : mx_Ev} {n : Nat} {h : mx_H} {Q : Option mx_V → mx_H → Prop} {a1 : Int32} (hK : (xK_ip Q h) (f183 a1 h)) : mx_M E n 183 [.inr (.inl 105), .inl (.int a1)] h Q := by
  cases n with
  | zero => exact mx_L.zero
  | succ n => exact sl183_0 (x_use (x_eq (K := (xK_ip Q h)) (f183_eq a1 h) hK) (fun hK => ((xw183 n).1 _ _ _ _ hK)))
noncomputable def b184 : ((Int32 × Int32 × Int32 × mx_H)) → ((Int32 × Int32 × Int32 × mx_H)) ⊕ (Int32 × mx_H)
  | (a1, a2, a3, h) => (if a1 ≤ a3 then (Sum.inr ((h.2.1 (.inl 105) 16 : Int32), h)) else (Sum.inl (a1, a2, (a3 + 1), mx_uI (mx_uI h (.inl 118) (Int32.toNatClampNeg (h.2.1 (.inl 105) 16)) (vp_nar .byte ((Int32.toInt8 (a2 >>> ((8 * a3) &&& 31))).toInt32))) (.inl 105) 16 (((mx_uI h (.inl 118) (Int32.toNatClampNeg (h.2.1 (.inl 105) 16)) (vp_nar .byte ((Int32.toInt8 (a2 >>> ((8 * a3) &&& 31))).toInt32))).2.1 (.inl 105) 16) + 1))))
noncomputable def g184_27 (a1 : Int32) (a2 : Int32) (a3 : Int32) (h : mx_H) : Int32 × mx_H := ml_wh b184 (a1, a2, a3, h)
theorem g184_27_eq (a1 : Int32) (a2 : Int32) (a3 : Int32) (h : mx_H) : g184_27 a1 a2 a3 h = (if a1 ≤ a3 then ((h.2.1 (.inl 105) 16 : Int32), h) else (g184_27 a1 a2 (a3 + 1) (mx_uI (mx_uI h (.inl 118) (Int32.toNatClampNeg (h.2.1 (.inl 105) 16)) (vp_nar .byte ((Int32.toInt8 (a2 >>> ((8 * a3) &&& 31))).toInt32))) (.inl 105) 16 (((mx_uI h (.inl 118) (Int32.toNatClampNeg (h.2.1 (.inl 105) 16)) (vp_nar .byte ((Int32.toInt8 (a2 >>> ((8 * a3) &&& 31))).toInt32))).2.1 (.inl 105) 16) + 1)))) := by
  unfold g184_27
  rw [ml_wh_eq]
  simp only [b184, ml_go_ite, ml_go_l, ml_go_r, ml_go_opt, ml_go_let, ml_go_h, ml_go_val]
  try rfl
noncomputable def f184 (a1 : Int32) (a2 : Int32) (h : mx_H) : Int32 × mx_H := x_box (if (f173 a1 1 4) ≠ 0 then (if ((h.2.1 (.inl 105) 16) + a1) ≤ 120 then (g184_27 a1 a2 0 h) else (((-3) : Int32), h)) else (((-1) : Int32), h))
theorem f184_eq (a1 : Int32) (a2 : Int32) (h : mx_H) : f184 a1 a2 h = (if (f173 a1 1 4) ≠ 0 then (if ((h.2.1 (.inl 105) 16) + a1) ≤ 120 then (g184_27 a1 a2 0 h) else (((-3) : Int32), h)) else (((-1) : Int32), h)) := x_box_eq _
theorem xw184 {E : mx_Ev} {Q : Option mx_V → mx_H → Prop} : ∀ n : Nat, (∀ (a1 : Int32) (a2 : Int32) (a3 : Int32) (h : mx_H), (xK_i Q) (g184_27 a1 a2 a3 h) → mx_L E n 184 27 [(0, .inr (.inl 105)), (1, .inl (.int a1)), (2, .inl (.int a2)), (3, .inl (.int a3))] [] h Q)
  | 0 => fun _ _ _ _ _ => mx_L.zero
  | n + 1 => fun a1 a2 a3 h hK => sl184_27 (x_use (x_eq (K := (xK_i Q)) (g184_27_eq a1 a2 a3 h) hK) (fun hK => (x_ite hK (fun hK => hK) (fun hK => (fun _ => ((xw184 n) _ _ _ _ hK))))))
theorem x184 {E : mx_Ev} {n : Nat} {h : mx_H} {Q : Option mx_V → mx_H → Prop} {a1 : Int32} {a2 : Int32} (hK : (xK_i Q) (f184 a1 a2 h)) : mx_M E n 184 [.inr (.inl 105), .inl (.int a1), .inl (.int a2)] h Q := by
  cases n with
  | zero => exact mx_L.zero
  | succ n => exact sl184_0 (x_use (x_eq (K := (xK_i Q)) (f184_eq a1 a2 h) hK) (fun hK => (x173 (xh_i (x_ite hK (fun hK => (x_ite hK (fun hK => ((xw184 n) _ _ _ _ hK)) (fun hK => hK))) (fun hK => hK))))))
noncomputable def f185  (h : mx_H) : Int32 := x_box (if (h.2.1 (.inl 105) 16) ≤ (h.2.1 (.inl 105) 17) then ((-1) : Int32) else (h.2.1 (.inl 118) (Int32.toNatClampNeg (h.2.1 (.inl 105) 17)) : Int32))
theorem f185_eq  (h : mx_H) : f185  h = (if (h.2.1 (.inl 105) 16) ≤ (h.2.1 (.inl 105) 17) then ((-1) : Int32) else (h.2.1 (.inl 118) (Int32.toNatClampNeg (h.2.1 (.inl 105) 17)) : Int32)) := x_box_eq _
theorem x185 {E : mx_Ev} {n : Nat} {h : mx_H} {Q : Option mx_V → mx_H → Prop} (hK : (xK_ip Q h) (f185  h)) : mx_M E n 185 [.inr (.inl 105)] h Q := by
  cases n with
  | zero => exact mx_L.zero
  | succ n => exact sl185_0 (x_use (x_eq (K := (xK_ip Q h)) (f185_eq  h) hK) (fun hK => (x_ite hK (fun hK => hK) (fun hK => (fun _ => hK)))))
noncomputable def f186  (h : mx_H) : mx_H := x_box (if 0 ≤ (h.2.1 (.inl 105) 18) then h else (mx_uI h (.inl 105) 18 (h.2.1 (.inl 105) 17)))
theorem f186_eq  (h : mx_H) : f186  h = (if 0 ≤ (h.2.1 (.inl 105) 18) then h else (mx_uI h (.inl 105) 18 (h.2.1 (.inl 105) 17))) := x_box_eq _
theorem x186 {E : mx_Ev} {n : Nat} {h : mx_H} {Q : Option mx_V → mx_H → Prop} (hK : (xK_v Q) (f186  h)) : mx_M E n 186 [.inr (.inl 105)] h Q := by
  cases n with
  | zero => exact mx_L.zero
  | succ n => exact sl186_0 (x_use (x_eq (K := (xK_v Q)) (f186_eq  h) hK) (fun hK => (x_ite hK (fun hK => hK) (fun hK => hK))))
noncomputable def f187  (h : mx_H) : Int32 := x_box ((f173 (f185 h) 49 57) : Int32)
theorem f187_eq  (h : mx_H) : f187  h = ((f173 (f185 h) 49 57) : Int32) := x_box_eq _
theorem x187 {E : mx_Ev} {n : Nat} {h : mx_H} {Q : Option mx_V → mx_H → Prop} (hK : (xK_ip Q h) (f187  h)) : mx_M E n 187 [.inr (.inl 105)] h Q := by
  cases n with
  | zero => exact mx_L.zero
  | succ n => exact sl187_0 (x_use (x_eq (K := (xK_ip Q h)) (f187_eq  h) hK) (fun hK => (x185 (xh_i (x173 (xh_i (fun _ => hK)))))))
noncomputable def f188  (h : mx_H) : Int32 × mx_H := x_box (if (f187 h) ≠ 0 then (((f185 h) - 48 : Int32), mx_uI h (.inl 105) 17 ((h.2.1 (.inl 105) 17) + 1)) else (x_h (f186 h) (fun h8 => ((0 : Int32), h8))))
theorem f188_eq  (h : mx_H) : f188  h = (if (f187 h) ≠ 0 then (((f185 h) - 48 : Int32), mx_uI h (.inl 105) 17 ((h.2.1 (.inl 105) 17) + 1)) else (x_h (f186 h) (fun h8 => ((0 : Int32), h8)))) := x_box_eq _
theorem x188 {E : mx_Ev} {n : Nat} {h : mx_H} {Q : Option mx_V → mx_H → Prop} (hK : (xK_i Q) (f188  h)) : mx_M E n 188 [.inr (.inl 105)] h Q := by
  cases n with
  | zero => exact mx_L.zero
  | succ n => exact sl188_0 (x_use (x_eq (K := (xK_i Q)) (f188_eq  h) hK) (fun hK => (x187 (xh_i (x_ite hK (fun hK => (x185 (xh_i hK))) (fun hK => (x186 (xh_n (x_hk hK (fun hK => hK))))))))))
noncomputable def f189  (h : mx_H) : Int32 := x_box (x_val (f185 h) (fun x3 => (if (f178 (h.2.1 (.inl 105) 1) (x3 - 97) h) = 0 then ((-1) : Int32) else (x3 - 97 : Int32))))
theorem f189_eq  (h : mx_H) : f189  h = (x_val (f185 h) (fun x3 => (if (f178 (h.2.1 (.inl 105) 1) (x3 - 97) h) = 0 then ((-1) : Int32) else (x3 - 97 : Int32)))) := x_box_eq _
theorem x189 {E : mx_Ev} {n : Nat} {h : mx_H} {Q : Option mx_V → mx_H → Prop} (hK : (xK_ip Q h) (f189  h)) : mx_M E n 189 [.inr (.inl 105)] h Q := by
  cases n with
  | zero => exact mx_L.zero
  | succ n => exact sl189_0 (x_use (x_eq (K := (xK_ip Q h)) (f189_eq  h) hK) (fun hK => (x185 (xh_i (x_valk hK (fun hK => (x178 (xh_i (x_ite hK (fun hK => hK) (fun hK => hK))))))))))
noncomputable def f190  (h : mx_H) : mx_H := x_box (x_val (f189 h) (fun x3 => (if 0 ≤ x3 then (x_val (f189 (mx_uI h (.inl 105) 17 ((h.2.1 (.inl 105) 17) + 1))) (fun x6 => (if x6 < 0 then (x_h (f186 (mx_uI h (.inl 105) 17 ((h.2.1 (.inl 105) 17) + 1))) (fun h8 => h8)) else (if x6 = x3 then (x_h (f186 (mx_uI h (.inl 105) 17 ((h.2.1 (.inl 105) 17) + 1))) (fun h10 => h10)) else (if (f180 ((mx_uI h (.inl 105) 17 ((h.2.1 (.inl 105) 17) + 1)).2.1 (.inl 105) 1) x3 x6 (mx_uI h (.inl 105) 17 ((h.2.1 (.inl 105) 17) + 1))) = 0 then (x_let (f188 (mx_uI (mx_uI h (.inl 105) 17 ((h.2.1 (.inl 105) 17) + 1)) (.inl 105) 17 (((mx_uI h (.inl 105) 17 ((h.2.1 (.inl 105) 17) + 1)).2.1 (.inl 105) 17) + 1))) (fun x16 h15 => (if (h15.2.1 (.inl 105) 18) < 0 then (x_h (f181 (h15.2.1 (.inl 105) 1) x3 x6 0 x16 0 h15) (fun h18 => (mx_uI (mx_uI (mx_uI h18 (.inl 119) (Int32.toNatClampNeg (h18.2.1 (.inl 105) 19)) x3) (.inl 120) (Int32.toNatClampNeg ((mx_uI h18 (.inl 119) (Int32.toNatClampNeg (h18.2.1 (.inl 105) 19)) x3).2.1 (.inl 105) 19)) x6) (.inl 105) 19 (((mx_uI (mx_uI h18 (.inl 119) (Int32.toNatClampNeg (h18.2.1 (.inl 105) 19)) x3) (.inl 120) (Int32.toNatClampNeg ((mx_uI h18 (.inl 119) (Int32.toNatClampNeg (h18.2.1 (.inl 105) 19)) x3).2.1 (.inl 105) 19)) x6).2.1 (.inl 105) 19) + 1)))) else h15))) else (x_h (f186 (mx_uI h (.inl 105) 17 ((h.2.1 (.inl 105) 17) + 1))) (fun h20 => h20))))))) else (x_h (f186 h) (fun h22 => h22)))))
theorem f190_eq  (h : mx_H) : f190  h = (x_val (f189 h) (fun x3 => (if 0 ≤ x3 then (x_val (f189 (mx_uI h (.inl 105) 17 ((h.2.1 (.inl 105) 17) + 1))) (fun x6 => (if x6 < 0 then (x_h (f186 (mx_uI h (.inl 105) 17 ((h.2.1 (.inl 105) 17) + 1))) (fun h8 => h8)) else (if x6 = x3 then (x_h (f186 (mx_uI h (.inl 105) 17 ((h.2.1 (.inl 105) 17) + 1))) (fun h10 => h10)) else (if (f180 ((mx_uI h (.inl 105) 17 ((h.2.1 (.inl 105) 17) + 1)).2.1 (.inl 105) 1) x3 x6 (mx_uI h (.inl 105) 17 ((h.2.1 (.inl 105) 17) + 1))) = 0 then (x_let (f188 (mx_uI (mx_uI h (.inl 105) 17 ((h.2.1 (.inl 105) 17) + 1)) (.inl 105) 17 (((mx_uI h (.inl 105) 17 ((h.2.1 (.inl 105) 17) + 1)).2.1 (.inl 105) 17) + 1))) (fun x16 h15 => (if (h15.2.1 (.inl 105) 18) < 0 then (x_h (f181 (h15.2.1 (.inl 105) 1) x3 x6 0 x16 0 h15) (fun h18 => (mx_uI (mx_uI (mx_uI h18 (.inl 119) (Int32.toNatClampNeg (h18.2.1 (.inl 105) 19)) x3) (.inl 120) (Int32.toNatClampNeg ((mx_uI h18 (.inl 119) (Int32.toNatClampNeg (h18.2.1 (.inl 105) 19)) x3).2.1 (.inl 105) 19)) x6) (.inl 105) 19 (((mx_uI (mx_uI h18 (.inl 119) (Int32.toNatClampNeg (h18.2.1 (.inl 105) 19)) x3) (.inl 120) (Int32.toNatClampNeg ((mx_uI h18 (.inl 119) (Int32.toNatClampNeg (h18.2.1 (.inl 105) 19)) x3).2.1 (.inl 105) 19)) x6).2.1 (.inl 105) 19) + 1)))) else h15))) else (x_h (f186 (mx_uI h (.inl 105) 17 ((h.2.1 (.inl 105) 17) + 1))) (fun h20 => h20))))))) else (x_h (f186 h) (fun h22 => h22))))) := x_box_eq _
theorem x190 {E : mx_Ev} {n : Nat} {h : mx_H} {Q : Option mx_V → mx_H → Prop} (hK : (xK_v Q) (f190  h)) : mx_M E n 190 [.inr (.inl 105)] h Q := by
  cases n with
  | zero => exact mx_L.zero
  | succ n => exact sl190_0 (x_use (x_eq (K := (xK_v Q)) (f190_eq  h) hK) (fun hK => (x189 (xh_i (x_valk hK (fun hK => (x_ite hK (fun hK => (x189 (xh_i (x_valk hK (fun hK => (x_ite hK (fun hK => (x186 (xh_n (x_hk hK (fun hK => hK))))) (fun hK => (x_ite hK (fun hK => (x186 (xh_n (x_hk hK (fun hK => hK))))) (fun hK => (x180 (xh_i (x_ite hK (fun hK => (x188 (xh_i (x_letk hK (fun hK => (x_ite hK (fun hK => (x181 (xh_n (x_hk hK (fun hK => (fun _ => (fun _ => hK))))))) (fun hK => hK))))))) (fun hK => (x186 (xh_n (x_hk hK (fun hK => hK))))))))))))))))) (fun hK => (x186 (xh_n (x_hk hK (fun hK => hK))))))))))))
noncomputable def b191 : ((Int32 × mx_H) ⊕ (Int32 × Int32 × mx_H) ⊕ (Int32 × Int32 × mx_H) ⊕ (mx_H)) → ((Int32 × mx_H) ⊕ (Int32 × Int32 × mx_H) ⊕ (Int32 × Int32 × mx_H) ⊕ (mx_H)) ⊕ (mx_H)
  | (.inl (a1, h)) => (if a1 ≠ 112 then (x_val (f189 (mx_uI h (.inl 105) 17 ((h.2.1 (.inl 105) 17) + 1))) (fun x3 => (if x3 < 0 then (Sum.inl (.inr (.inr (.inl (a1, x3, (mx_uI h (.inl 105) 17 ((h.2.1 (.inl 105) 17) + 1))))))) else (if a1 ≠ 115 then (if a1 ≠ 119 then (if ((mx_uI h (.inl 105) 17 ((h.2.1 (.inl 105) 17) + 1)).2.1 (.inl 110) (Int32.toNatClampNeg ((6 * ((mx_uI h (.inl 105) 17 ((h.2.1 (.inl 105) 17) + 1)).2.1 (.inl 105) 1)) + x3))) = 0 then (Sum.inl (.inr (.inr (.inl (a1, x3, (mx_uI h (.inl 105) 17 ((h.2.1 (.inl 105) 17) + 1))))))) else (Sum.inl (.inr (.inl (a1, x3, (mx_uI h (.inl 105) 17 ((h.2.1 (.inl 105) 17) + 1))))))) else (if ((mx_uI h (.inl 105) 17 ((h.2.1 (.inl 105) 17) + 1)).2.1 (.inl 122) (Int32.toNatClampNeg x3)) = 0 then (Sum.inl (.inr (.inr (.inl (a1, x3, (mx_uI h (.inl 105) 17 ((h.2.1 (.inl 105) 17) + 1))))))) else (Sum.inl (.inr (.inl (a1, x3, (mx_uI h (.inl 105) 17 ((h.2.1 (.inl 105) 17) + 1)))))))) else (if ((mx_uI h (.inl 105) 17 ((h.2.1 (.inl 105) 17) + 1)).2.1 (.inl 121) (Int32.toNatClampNeg x3)) = 0 then (Sum.inl (.inr (.inr (.inl (a1, x3, (mx_uI h (.inl 105) 17 ((h.2.1 (.inl 105) 17) + 1))))))) else (Sum.inl (.inr (.inl (a1, x3, (mx_uI h (.inl 105) 17 ((h.2.1 (.inl 105) 17) + 1))))))))))) else (x_h (f190 (mx_uI h (.inl 105) 17 ((h.2.1 (.inl 105) 17) + 1))) (fun h5 => (Sum.inr h5))))
  | (.inr (.inl (a1, a2, h))) => (if a2 < 0 then (Sum.inl (.inr (.inr (.inr h)))) else (if (1 : Int32) = 0 then (if a1 ≠ 104 then (x_let (f188 (mx_uI h (.inl 105) 17 ((h.2.1 (.inl 105) 17) + 1))) (fun x3 h2 => (if (h2.2.1 (.inl 105) 18) < 0 then (if a1 ≠ 115 then (Sum.inr (mx_uI (mx_uI h2 (.inl 109) (Int32.toNatClampNeg ((6 * ((mx_uI h (.inl 105) 17 ((h.2.1 (.inl 105) 17) + 1)).2.1 (.inl 105) 1)) + a2)) x3) (.inl 122) (Int32.toNatClampNeg a2) (vp_nar .boolean 1))) else (Sum.inr (mx_uI (mx_uI h2 (.inl 108) (Int32.toNatClampNeg ((6 * ((mx_uI h (.inl 105) 17 ((h.2.1 (.inl 105) 17) + 1)).2.1 (.inl 105) 1)) + a2)) x3) (.inl 121) (Int32.toNatClampNeg a2) (vp_nar .boolean 1)))) else (Sum.inr h2)))) else (Sum.inr (mx_uI (mx_uI h (.inl 105) 17 ((h.2.1 (.inl 105) 17) + 1)) (.inl 110) (Int32.toNatClampNeg ((6 * ((mx_uI h (.inl 105) 17 ((h.2.1 (.inl 105) 17) + 1)).2.1 (.inl 105) 1)) + a2)) (vp_nar .boolean 1)))) else (Sum.inl (.inr (.inr (.inr h))))))
  | (.inr (.inr (.inl (a1, a2, h)))) => (if a2 < 0 then (Sum.inl (.inr (.inr (.inr h)))) else (if (0 : Int32) = 0 then (if a1 ≠ 104 then (x_let (f188 (mx_uI h (.inl 105) 17 ((h.2.1 (.inl 105) 17) + 1))) (fun x3 h2 => (if (h2.2.1 (.inl 105) 18) < 0 then (if a1 ≠ 115 then (Sum.inr (mx_uI (mx_uI h2 (.inl 109) (Int32.toNatClampNeg ((6 * ((mx_uI h (.inl 105) 17 ((h.2.1 (.inl 105) 17) + 1)).2.1 (.inl 105) 1)) + a2)) x3) (.inl 122) (Int32.toNatClampNeg a2) (vp_nar .boolean 1))) else (Sum.inr (mx_uI (mx_uI h2 (.inl 108) (Int32.toNatClampNeg ((6 * ((mx_uI h (.inl 105) 17 ((h.2.1 (.inl 105) 17) + 1)).2.1 (.inl 105) 1)) + a2)) x3) (.inl 121) (Int32.toNatClampNeg a2) (vp_nar .boolean 1)))) else (Sum.inr h2)))) else (Sum.inr (mx_uI (mx_uI h (.inl 105) 17 ((h.2.1 (.inl 105) 17) + 1)) (.inl 110) (Int32.toNatClampNeg ((6 * ((mx_uI h (.inl 105) 17 ((h.2.1 (.inl 105) 17) + 1)).2.1 (.inl 105) 1)) + a2)) (vp_nar .boolean 1)))) else (Sum.inl (.inr (.inr (.inr h))))))
  | (.inr (.inr (.inr h))) => (x_h (f186 h) (fun h2 => (Sum.inr h2)))
noncomputable def g191_34 (a1 : Int32) (h : mx_H) : mx_H := ml_wh b191 (.inl (a1, h))
noncomputable def g191_117 (a1 : Int32) (a2 : Int32) (h : mx_H) : mx_H := ml_wh b191 (.inr (.inl (a1, a2, h)))
noncomputable def g191_121 (a1 : Int32) (a2 : Int32) (h : mx_H) : mx_H := ml_wh b191 (.inr (.inr (.inl (a1, a2, h))))
noncomputable def g191_131  (h : mx_H) : mx_H := ml_wh b191 (.inr (.inr (.inr h)))
theorem g191_34_eq (a1 : Int32) (h : mx_H) : g191_34 a1 h = (if a1 ≠ 112 then (x_val (f189 (mx_uI h (.inl 105) 17 ((h.2.1 (.inl 105) 17) + 1))) (fun x3 => (if x3 < 0 then (g191_121 a1 x3 (mx_uI h (.inl 105) 17 ((h.2.1 (.inl 105) 17) + 1))) else (if a1 ≠ 115 then (if a1 ≠ 119 then (if ((mx_uI h (.inl 105) 17 ((h.2.1 (.inl 105) 17) + 1)).2.1 (.inl 110) (Int32.toNatClampNeg ((6 * ((mx_uI h (.inl 105) 17 ((h.2.1 (.inl 105) 17) + 1)).2.1 (.inl 105) 1)) + x3))) = 0 then (g191_121 a1 x3 (mx_uI h (.inl 105) 17 ((h.2.1 (.inl 105) 17) + 1))) else (g191_117 a1 x3 (mx_uI h (.inl 105) 17 ((h.2.1 (.inl 105) 17) + 1)))) else (if ((mx_uI h (.inl 105) 17 ((h.2.1 (.inl 105) 17) + 1)).2.1 (.inl 122) (Int32.toNatClampNeg x3)) = 0 then (g191_121 a1 x3 (mx_uI h (.inl 105) 17 ((h.2.1 (.inl 105) 17) + 1))) else (g191_117 a1 x3 (mx_uI h (.inl 105) 17 ((h.2.1 (.inl 105) 17) + 1))))) else (if ((mx_uI h (.inl 105) 17 ((h.2.1 (.inl 105) 17) + 1)).2.1 (.inl 121) (Int32.toNatClampNeg x3)) = 0 then (g191_121 a1 x3 (mx_uI h (.inl 105) 17 ((h.2.1 (.inl 105) 17) + 1))) else (g191_117 a1 x3 (mx_uI h (.inl 105) 17 ((h.2.1 (.inl 105) 17) + 1)))))))) else (x_h (f190 (mx_uI h (.inl 105) 17 ((h.2.1 (.inl 105) 17) + 1))) (fun h5 => h5))) := by
  unfold g191_34
  rw [ml_wh_eq]
  simp only [b191, ml_go_ite, ml_go_l, ml_go_r, ml_go_opt, ml_go_let, ml_go_h, ml_go_val]
  try rfl
theorem g191_117_eq (a1 : Int32) (a2 : Int32) (h : mx_H) : g191_117 a1 a2 h = (if a2 < 0 then (g191_131  h) else (if (1 : Int32) = 0 then (if a1 ≠ 104 then (x_let (f188 (mx_uI h (.inl 105) 17 ((h.2.1 (.inl 105) 17) + 1))) (fun x3 h2 => (if (h2.2.1 (.inl 105) 18) < 0 then (if a1 ≠ 115 then (mx_uI (mx_uI h2 (.inl 109) (Int32.toNatClampNeg ((6 * ((mx_uI h (.inl 105) 17 ((h.2.1 (.inl 105) 17) + 1)).2.1 (.inl 105) 1)) + a2)) x3) (.inl 122) (Int32.toNatClampNeg a2) (vp_nar .boolean 1)) else (mx_uI (mx_uI h2 (.inl 108) (Int32.toNatClampNeg ((6 * ((mx_uI h (.inl 105) 17 ((h.2.1 (.inl 105) 17) + 1)).2.1 (.inl 105) 1)) + a2)) x3) (.inl 121) (Int32.toNatClampNeg a2) (vp_nar .boolean 1))) else h2))) else (mx_uI (mx_uI h (.inl 105) 17 ((h.2.1 (.inl 105) 17) + 1)) (.inl 110) (Int32.toNatClampNeg ((6 * ((mx_uI h (.inl 105) 17 ((h.2.1 (.inl 105) 17) + 1)).2.1 (.inl 105) 1)) + a2)) (vp_nar .boolean 1))) else (g191_131  h))) := by
  unfold g191_117
  rw [ml_wh_eq]
  simp only [b191, ml_go_ite, ml_go_l, ml_go_r, ml_go_opt, ml_go_let, ml_go_h, ml_go_val]
  try rfl
theorem g191_121_eq (a1 : Int32) (a2 : Int32) (h : mx_H) : g191_121 a1 a2 h = (if a2 < 0 then (g191_131  h) else (if (0 : Int32) = 0 then (if a1 ≠ 104 then (x_let (f188 (mx_uI h (.inl 105) 17 ((h.2.1 (.inl 105) 17) + 1))) (fun x3 h2 => (if (h2.2.1 (.inl 105) 18) < 0 then (if a1 ≠ 115 then (mx_uI (mx_uI h2 (.inl 109) (Int32.toNatClampNeg ((6 * ((mx_uI h (.inl 105) 17 ((h.2.1 (.inl 105) 17) + 1)).2.1 (.inl 105) 1)) + a2)) x3) (.inl 122) (Int32.toNatClampNeg a2) (vp_nar .boolean 1)) else (mx_uI (mx_uI h2 (.inl 108) (Int32.toNatClampNeg ((6 * ((mx_uI h (.inl 105) 17 ((h.2.1 (.inl 105) 17) + 1)).2.1 (.inl 105) 1)) + a2)) x3) (.inl 121) (Int32.toNatClampNeg a2) (vp_nar .boolean 1))) else h2))) else (mx_uI (mx_uI h (.inl 105) 17 ((h.2.1 (.inl 105) 17) + 1)) (.inl 110) (Int32.toNatClampNeg ((6 * ((mx_uI h (.inl 105) 17 ((h.2.1 (.inl 105) 17) + 1)).2.1 (.inl 105) 1)) + a2)) (vp_nar .boolean 1))) else (g191_131  h))) := by
  unfold g191_121
  rw [ml_wh_eq]
  simp only [b191, ml_go_ite, ml_go_l, ml_go_r, ml_go_opt, ml_go_let, ml_go_h, ml_go_val]
  try rfl
theorem g191_131_eq  (h : mx_H) : g191_131  h = (x_h (f186 h) (fun h2 => h2)) := by
  unfold g191_131
  rw [ml_wh_eq]
  simp only [b191, ml_go_ite, ml_go_l, ml_go_r, ml_go_opt, ml_go_let, ml_go_h, ml_go_val]
  try rfl
noncomputable def f191  (h : mx_H) : mx_H := x_box (x_val (f185 h) (fun x3 => (if x3 = 112 then (g191_34 x3 h) else (if x3 = 115 then (g191_34 x3 h) else (if x3 = 104 then (g191_34 x3 h) else (if x3 = 119 then (g191_34 x3 h) else (x_h (f186 h) (fun h5 => h5))))))))
theorem f191_eq  (h : mx_H) : f191  h = (x_val (f185 h) (fun x3 => (if x3 = 112 then (g191_34 x3 h) else (if x3 = 115 then (g191_34 x3 h) else (if x3 = 104 then (g191_34 x3 h) else (if x3 = 119 then (g191_34 x3 h) else (x_h (f186 h) (fun h5 => h5)))))))) := x_box_eq _
theorem xw191 {E : mx_Ev} {Q : Option mx_V → mx_H → Prop} : ∀ n : Nat, (∀ (a1 : Int32) (h : mx_H), (xK_v Q) (g191_34 a1 h) → mx_L E n 191 34 [(0, .inr (.inl 105)), (1, .inl (.int a1))] [] h Q) ∧ (∀ (a1 : Int32) (a2 : Int32) (h : mx_H), (xK_v Q) (g191_117 a1 a2 h) → mx_L E n 191 117 [(0, .inr (.inl 105)), (1, .inl (.int a1)), (2, .inl (.int a2))] [] h Q) ∧ (∀ (a1 : Int32) (a2 : Int32) (h : mx_H), (xK_v Q) (g191_121 a1 a2 h) → mx_L E n 191 121 [(0, .inr (.inl 105)), (1, .inl (.int a1)), (2, .inl (.int a2))] [] h Q) ∧ (∀ (h : mx_H), (xK_v Q) (g191_131  h) → mx_L E n 191 131 [(0, .inr (.inl 105))] [] h Q)
  | 0 => ⟨fun _ _ _ => mx_L.zero, fun _ _ _ _ => mx_L.zero, fun _ _ _ _ => mx_L.zero, fun _ _ => mx_L.zero⟩
  | n + 1 => ⟨fun a1 h hK => sl191_34 (x_use (x_eq (K := (xK_v Q)) (g191_34_eq a1 h) hK) (fun hK => (x_ite hK (fun hK => (x189 (xh_i (x_valk hK (fun hK => (x_ite hK (fun hK => ((xw191 n).2.2.1 _ _ _ hK)) (fun hK => (x_ite hK (fun hK => (x_ite hK (fun hK => (fun _ => (x_ite hK (fun hK => ((xw191 n).2.2.1 _ _ _ hK)) (fun hK => ((xw191 n).2.1 _ _ _ hK))))) (fun hK => (fun _ => (x_ite hK (fun hK => ((xw191 n).2.2.1 _ _ _ hK)) (fun hK => ((xw191 n).2.1 _ _ _ hK))))))) (fun hK => (fun _ => (x_ite hK (fun hK => ((xw191 n).2.2.1 _ _ _ hK)) (fun hK => ((xw191 n).2.1 _ _ _ hK))))))))))))) (fun hK => (x190 (xh_n (x_hk hK (fun hK => hK)))))))), fun a1 a2 h hK => sl191_117 (x_use (x_eq (K := (xK_v Q)) (g191_117_eq a1 a2 h) hK) (fun hK => (x_ite hK (fun hK => ((xw191 n).2.2.2 _ hK)) (fun hK => (x_ite hK (fun hK => (x_ite hK (fun hK => (x188 (xh_i (x_letk hK (fun hK => (x_ite hK (fun hK => (x_ite hK (fun hK => (fun _ => (fun _ => hK))) (fun hK => (fun _ => (fun _ => hK))))) (fun hK => hK))))))) (fun hK => (fun _ => hK)))) (fun hK => ((xw191 n).2.2.2 _ hK))))))), fun a1 a2 h hK => sl191_121 (x_use (x_eq (K := (xK_v Q)) (g191_121_eq a1 a2 h) hK) (fun hK => (x_ite hK (fun hK => ((xw191 n).2.2.2 _ hK)) (fun hK => (x_ite hK (fun hK => (x_ite hK (fun hK => (x188 (xh_i (x_letk hK (fun hK => (x_ite hK (fun hK => (x_ite hK (fun hK => (fun _ => (fun _ => hK))) (fun hK => (fun _ => (fun _ => hK))))) (fun hK => hK))))))) (fun hK => (fun _ => hK)))) (fun hK => ((xw191 n).2.2.2 _ hK))))))), fun h hK => sl191_131 (x_use (x_eq (K := (xK_v Q)) (g191_131_eq  h) hK) (fun hK => (x186 (xh_n (x_hk hK (fun hK => hK))))))⟩
theorem x191 {E : mx_Ev} {n : Nat} {h : mx_H} {Q : Option mx_V → mx_H → Prop} (hK : (xK_v Q) (f191  h)) : mx_M E n 191 [.inr (.inl 105)] h Q := by
  cases n with
  | zero => exact mx_L.zero
  | succ n => exact sl191_0 (x_use (x_eq (K := (xK_v Q)) (f191_eq  h) hK) (fun hK => (x185 (xh_i (x_valk hK (fun hK => (x_ite hK (fun hK => ((xw191 n).1 _ _ hK)) (fun hK => (x_ite hK (fun hK => ((xw191 n).1 _ _ hK)) (fun hK => (x_ite hK (fun hK => ((xw191 n).1 _ _ hK)) (fun hK => (x_ite hK (fun hK => ((xw191 n).1 _ _ hK)) (fun hK => (x186 (xh_n (x_hk hK (fun hK => hK))))))))))))))))))
noncomputable def b192 : ((Int32 × mx_H) ⊕ (mx_H) ⊕ (mx_H)) → ((Int32 × mx_H) ⊕ (mx_H) ⊕ (mx_H)) ⊕ (mx_H)
  | (.inl (a1, h)) => (if 6 ≤ a1 then (if (f185 h) = 99 then (Sum.inl (.inr (.inl (mx_uI h (.inl 105) 17 ((h.2.1 (.inl 105) 17) + 1))))) else (x_h (f186 h) (fun h5 => (Sum.inr h5)))) else (Sum.inl (.inl ((a1 + 1), mx_uI (mx_uI h (.inl 121) (Int32.toNatClampNeg a1) (vp_nar .boolean 0)) (.inl 122) (Int32.toNatClampNeg a1) (vp_nar .boolean 0)))))
  | (.inr (.inl h)) => (if 6 ≤ (h.2.1 (.inl 106) (Int32.toNatClampNeg (h.2.1 (.inl 105) 1))) then (if (h.2.1 (.inl 106) (Int32.toNatClampNeg (h.2.1 (.inl 105) 1))) ≠ 0 then (Sum.inl (.inr (.inr h))) else (x_h (f186 h) (fun h2 => (Sum.inl (.inr (.inr h2)))))) else (if (f187 h) = 0 then (if (h.2.1 (.inl 106) (Int32.toNatClampNeg (h.2.1 (.inl 105) 1))) ≠ 0 then (Sum.inl (.inr (.inr h))) else (x_h (f186 h) (fun h7 => (Sum.inl (.inr (.inr h7)))))) else (x_let (f188 h) (fun x10 h9 => (Sum.inl (.inr (.inl (mx_uI (mx_uI h9 (.inl 107) (Int32.toNatClampNeg ((6 * (h.2.1 (.inl 105) 1)) + (h.2.1 (.inl 106) (Int32.toNatClampNeg (h.2.1 (.inl 105) 1))))) x10) (.inl 106) (Int32.toNatClampNeg ((mx_uI h9 (.inl 107) (Int32.toNatClampNeg ((6 * (h.2.1 (.inl 105) 1)) + (h.2.1 (.inl 106) (Int32.toNatClampNeg (h.2.1 (.inl 105) 1))))) x10).2.1 (.inl 105) 1)) (((mx_uI h9 (.inl 107) (Int32.toNatClampNeg ((6 * (h.2.1 (.inl 105) 1)) + (h.2.1 (.inl 106) (Int32.toNatClampNeg (h.2.1 (.inl 105) 1))))) x10).2.1 (.inl 106) (Int32.toNatClampNeg ((mx_uI h9 (.inl 107) (Int32.toNatClampNeg ((6 * (h.2.1 (.inl 105) 1)) + (h.2.1 (.inl 106) (Int32.toNatClampNeg (h.2.1 (.inl 105) 1))))) x10).2.1 (.inl 105) 1))) + 1)))))))))
  | (.inr (.inr h)) => (if 0 ≤ (h.2.1 (.inl 105) 18) then (if 0 ≤ (h.2.1 (.inl 105) 18) then (Sum.inr h) else (if (h.2.1 (.inl 105) 16) ≤ (h.2.1 (.inl 105) 17) then (Sum.inr h) else (x_h (f186 h) (fun h2 => (Sum.inr h2))))) else (if (f185 h) ≠ 59 then (if 0 ≤ (h.2.1 (.inl 105) 18) then (Sum.inr h) else (if (h.2.1 (.inl 105) 16) ≤ (h.2.1 (.inl 105) 17) then (Sum.inr h) else (x_h (f186 h) (fun h7 => (Sum.inr h7))))) else (x_h (f191 (mx_uI h (.inl 105) 17 ((h.2.1 (.inl 105) 17) + 1))) (fun h9 => (Sum.inl (.inr (.inr h9)))))))
noncomputable def g192_25 (a1 : Int32) (h : mx_H) : mx_H := ml_wh b192 (.inl (a1, h))
noncomputable def g192_75  (h : mx_H) : mx_H := ml_wh b192 (.inr (.inl h))
noncomputable def g192_154  (h : mx_H) : mx_H := ml_wh b192 (.inr (.inr h))
theorem g192_25_eq (a1 : Int32) (h : mx_H) : g192_25 a1 h = (if 6 ≤ a1 then (if (f185 h) = 99 then (g192_75  (mx_uI h (.inl 105) 17 ((h.2.1 (.inl 105) 17) + 1))) else (x_h (f186 h) (fun h5 => h5))) else (g192_25 (a1 + 1) (mx_uI (mx_uI h (.inl 121) (Int32.toNatClampNeg a1) (vp_nar .boolean 0)) (.inl 122) (Int32.toNatClampNeg a1) (vp_nar .boolean 0)))) := by
  unfold g192_25
  rw [ml_wh_eq]
  simp only [b192, ml_go_ite, ml_go_l, ml_go_r, ml_go_opt, ml_go_let, ml_go_h, ml_go_val]
  try rfl
theorem g192_75_eq  (h : mx_H) : g192_75  h = (if 6 ≤ (h.2.1 (.inl 106) (Int32.toNatClampNeg (h.2.1 (.inl 105) 1))) then (if (h.2.1 (.inl 106) (Int32.toNatClampNeg (h.2.1 (.inl 105) 1))) ≠ 0 then (g192_154  h) else (x_h (f186 h) (fun h2 => (g192_154  h2)))) else (if (f187 h) = 0 then (if (h.2.1 (.inl 106) (Int32.toNatClampNeg (h.2.1 (.inl 105) 1))) ≠ 0 then (g192_154  h) else (x_h (f186 h) (fun h7 => (g192_154  h7)))) else (x_let (f188 h) (fun x10 h9 => (g192_75  (mx_uI (mx_uI h9 (.inl 107) (Int32.toNatClampNeg ((6 * (h.2.1 (.inl 105) 1)) + (h.2.1 (.inl 106) (Int32.toNatClampNeg (h.2.1 (.inl 105) 1))))) x10) (.inl 106) (Int32.toNatClampNeg ((mx_uI h9 (.inl 107) (Int32.toNatClampNeg ((6 * (h.2.1 (.inl 105) 1)) + (h.2.1 (.inl 106) (Int32.toNatClampNeg (h.2.1 (.inl 105) 1))))) x10).2.1 (.inl 105) 1)) (((mx_uI h9 (.inl 107) (Int32.toNatClampNeg ((6 * (h.2.1 (.inl 105) 1)) + (h.2.1 (.inl 106) (Int32.toNatClampNeg (h.2.1 (.inl 105) 1))))) x10).2.1 (.inl 106) (Int32.toNatClampNeg ((mx_uI h9 (.inl 107) (Int32.toNatClampNeg ((6 * (h.2.1 (.inl 105) 1)) + (h.2.1 (.inl 106) (Int32.toNatClampNeg (h.2.1 (.inl 105) 1))))) x10).2.1 (.inl 105) 1))) + 1))))))) := by
  unfold g192_75
  rw [ml_wh_eq]
  simp only [b192, ml_go_ite, ml_go_l, ml_go_r, ml_go_opt, ml_go_let, ml_go_h, ml_go_val]
  try rfl
theorem g192_154_eq  (h : mx_H) : g192_154  h = (if 0 ≤ (h.2.1 (.inl 105) 18) then (if 0 ≤ (h.2.1 (.inl 105) 18) then h else (if (h.2.1 (.inl 105) 16) ≤ (h.2.1 (.inl 105) 17) then h else (x_h (f186 h) (fun h2 => h2)))) else (if (f185 h) ≠ 59 then (if 0 ≤ (h.2.1 (.inl 105) 18) then h else (if (h.2.1 (.inl 105) 16) ≤ (h.2.1 (.inl 105) 17) then h else (x_h (f186 h) (fun h7 => h7)))) else (x_h (f191 (mx_uI h (.inl 105) 17 ((h.2.1 (.inl 105) 17) + 1))) (fun h9 => (g192_154  h9))))) := by
  unfold g192_154
  rw [ml_wh_eq]
  simp only [b192, ml_go_ite, ml_go_l, ml_go_r, ml_go_opt, ml_go_let, ml_go_h, ml_go_val]
  try rfl
noncomputable def f192  (h : mx_H) : mx_H := x_box (x_h (f182 ((mx_uI (mx_uI (mx_uI h (.inl 105) 17 0) (.inl 105) 18 (-1)) (.inl 105) 19 0).2.1 (.inl 105) 1) (mx_uI (mx_uI (mx_uI h (.inl 105) 17 0) (.inl 105) 18 (-1)) (.inl 105) 19 0)) (fun h2 => (g192_25 0 h2)))
theorem f192_eq  (h : mx_H) : f192  h = (x_h (f182 ((mx_uI (mx_uI (mx_uI h (.inl 105) 17 0) (.inl 105) 18 (-1)) (.inl 105) 19 0).2.1 (.inl 105) 1) (mx_uI (mx_uI (mx_uI h (.inl 105) 17 0) (.inl 105) 18 (-1)) (.inl 105) 19 0)) (fun h2 => (g192_25 0 h2))) := x_box_eq _
theorem xw192 {E : mx_Ev} {Q : Option mx_V → mx_H → Prop} : ∀ n : Nat, (∀ (a1 : Int32) (h : mx_H), (xK_v Q) (g192_25 a1 h) → mx_L E n 192 25 [(0, .inr (.inl 105)), (1, .inl (.int a1))] [] h Q) ∧ (∀ (h : mx_H), (xK_v Q) (g192_75  h) → mx_L E n 192 75 [(0, .inr (.inl 105))] [] h Q) ∧ (∀ (h : mx_H), (xK_v Q) (g192_154  h) → mx_L E n 192 154 [(0, .inr (.inl 105))] [] h Q)
  | 0 => ⟨fun _ _ _ => mx_L.zero, fun _ _ => mx_L.zero, fun _ _ => mx_L.zero⟩
  | n + 1 => ⟨fun a1 h hK => sl192_25 (x_use (x_eq (K := (xK_v Q)) (g192_25_eq a1 h) hK) (fun hK => (x_ite hK (fun hK => (x185 (xh_i (x_ite hK (fun hK => ((xw192 n).2.1 _ hK)) (fun hK => (x186 (xh_n (x_hk hK (fun hK => hK))))))))) (fun hK => (fun _ => (fun _ => ((xw192 n).1 _ _ hK))))))), fun h hK => sl192_75 (x_use (x_eq (K := (xK_v Q)) (g192_75_eq  h) hK) (fun hK => (fun _ => (x_ite hK (fun hK => (fun _ => (x_ite hK (fun hK => ((xw192 n).2.2 _ hK)) (fun hK => (x186 (xh_n (x_hk hK (fun hK => ((xw192 n).2.2 _ hK))))))))) (fun hK => (x187 (xh_i (x_ite hK (fun hK => (fun _ => (x_ite hK (fun hK => ((xw192 n).2.2 _ hK)) (fun hK => (x186 (xh_n (x_hk hK (fun hK => ((xw192 n).2.2 _ hK))))))))) (fun hK => (fun _ => (x188 (xh_i (x_letk hK (fun hK => (fun _ => (fun _ => (fun _ => ((xw192 n).2.1 _ hK)))))))))))))))))), fun h hK => sl192_154 (x_use (x_eq (K := (xK_v Q)) (g192_154_eq  h) hK) (fun hK => (x_ite hK (fun hK => (x_ite hK (fun hK => hK) (fun hK => (x_ite hK (fun hK => hK) (fun hK => (x186 (xh_n (x_hk hK (fun hK => hK))))))))) (fun hK => (x185 (xh_i (x_ite hK (fun hK => (x_ite hK (fun hK => hK) (fun hK => (x_ite hK (fun hK => hK) (fun hK => (x186 (xh_n (x_hk hK (fun hK => hK))))))))) (fun hK => (x191 (xh_n (x_hk hK (fun hK => ((xw192 n).2.2 _ hK)))))))))))))⟩
theorem x192 {E : mx_Ev} {n : Nat} {h : mx_H} {Q : Option mx_V → mx_H → Prop} (hK : (xK_v Q) (f192  h)) : mx_M E n 192 [.inr (.inl 105)] h Q := by
  cases n with
  | zero => exact mx_L.zero
  | succ n => exact sl192_0 (x_use (x_eq (K := (xK_v Q)) (f192_eq  h) hK) (fun hK => (x182 (xh_n (x_hk hK (fun hK => ((xw192 n).1 _ _ hK)))))))
noncomputable def f193 (a1 : Int32) (a2 : Int32) (a3 : Int32) (h : mx_H) : mx_H := x_box (x_val (f179 a1 a2 a3) (fun x3 => (x_h (f181 a1 a2 a3 ((mx_uI (mx_uI h (.inl 116) (Int32.toNatClampNeg (h.2.1 (.inl 105) 12)) 1) (.inl 117) (Int32.toNatClampNeg ((mx_uI h (.inl 116) (Int32.toNatClampNeg (h.2.1 (.inl 105) 12)) 1).2.1 (.inl 105) 12)) (x3 + 1)).2.1 (.inl 105) 12) ((mx_uI (mx_uI h (.inl 116) (Int32.toNatClampNeg (h.2.1 (.inl 105) 12)) 1) (.inl 117) (Int32.toNatClampNeg ((mx_uI h (.inl 116) (Int32.toNatClampNeg (h.2.1 (.inl 105) 12)) 1).2.1 (.inl 105) 12)) (x3 + 1)).2.1 (.inl 111) (Int32.toNatClampNeg (f179 a1 a2 a3))) ((mx_uI (mx_uI h (.inl 116) (Int32.toNatClampNeg (h.2.1 (.inl 105) 12)) 1) (.inl 117) (Int32.toNatClampNeg ((mx_uI h (.inl 116) (Int32.toNatClampNeg (h.2.1 (.inl 105) 12)) 1).2.1 (.inl 105) 12)) (x3 + 1)).2.1 (.inl 112) (Int32.toNatClampNeg (f179 a1 a2 a3))) (mx_uI (mx_uI h (.inl 116) (Int32.toNatClampNeg (h.2.1 (.inl 105) 12)) 1) (.inl 117) (Int32.toNatClampNeg ((mx_uI h (.inl 116) (Int32.toNatClampNeg (h.2.1 (.inl 105) 12)) 1).2.1 (.inl 105) 12)) (x3 + 1))) (fun h11 => (mx_uI h11 (.inl 105) 12 ((h11.2.1 (.inl 105) 12) + 1))))))
theorem f193_eq (a1 : Int32) (a2 : Int32) (a3 : Int32) (h : mx_H) : f193 a1 a2 a3 h = (x_val (f179 a1 a2 a3) (fun x3 => (x_h (f181 a1 a2 a3 ((mx_uI (mx_uI h (.inl 116) (Int32.toNatClampNeg (h.2.1 (.inl 105) 12)) 1) (.inl 117) (Int32.toNatClampNeg ((mx_uI h (.inl 116) (Int32.toNatClampNeg (h.2.1 (.inl 105) 12)) 1).2.1 (.inl 105) 12)) (x3 + 1)).2.1 (.inl 105) 12) ((mx_uI (mx_uI h (.inl 116) (Int32.toNatClampNeg (h.2.1 (.inl 105) 12)) 1) (.inl 117) (Int32.toNatClampNeg ((mx_uI h (.inl 116) (Int32.toNatClampNeg (h.2.1 (.inl 105) 12)) 1).2.1 (.inl 105) 12)) (x3 + 1)).2.1 (.inl 111) (Int32.toNatClampNeg (f179 a1 a2 a3))) ((mx_uI (mx_uI h (.inl 116) (Int32.toNatClampNeg (h.2.1 (.inl 105) 12)) 1) (.inl 117) (Int32.toNatClampNeg ((mx_uI h (.inl 116) (Int32.toNatClampNeg (h.2.1 (.inl 105) 12)) 1).2.1 (.inl 105) 12)) (x3 + 1)).2.1 (.inl 112) (Int32.toNatClampNeg (f179 a1 a2 a3))) (mx_uI (mx_uI h (.inl 116) (Int32.toNatClampNeg (h.2.1 (.inl 105) 12)) 1) (.inl 117) (Int32.toNatClampNeg ((mx_uI h (.inl 116) (Int32.toNatClampNeg (h.2.1 (.inl 105) 12)) 1).2.1 (.inl 105) 12)) (x3 + 1))) (fun h11 => (mx_uI h11 (.inl 105) 12 ((h11.2.1 (.inl 105) 12) + 1)))))) := x_box_eq _
theorem x193 {E : mx_Ev} {n : Nat} {h : mx_H} {Q : Option mx_V → mx_H → Prop} {a1 : Int32} {a2 : Int32} {a3 : Int32} (hK : (xK_v Q) (f193 a1 a2 a3 h)) : mx_M E n 193 [.inr (.inl 105), .inl (.int a1), .inl (.int a2), .inl (.int a3)] h Q := by
  cases n with
  | zero => exact mx_L.zero
  | succ n => exact sl193_0 (x_use (x_eq (K := (xK_v Q)) (f193_eq a1 a2 a3 h) hK) (fun hK => (fun _ => (x179 (xh_i (x_valk hK (fun hK => (fun _ => (x179 (xh_i (fun _ => (x179 (xh_i (fun _ => (x181 (xh_n (x_hk hK (fun hK => hK))))))))))))))))))
noncomputable def b194 : ((Int32 × mx_H)) → ((Int32 × mx_H)) ⊕ (Int32 × mx_H)
  | (a1, h) => (if (h.2.1 (.inl 105) 19) ≤ a1 then (Sum.inr ((((mx_uI (mx_uI h (.inl 114) (Int32.toNatClampNeg (h.2.1 (.inl 105) 1)) (-1)) (.inl 105) 1 (((mx_uI h (.inl 114) (Int32.toNatClampNeg (h.2.1 (.inl 105) 1)) (-1)).2.1 (.inl 105) 1) + 1)).2.1 (.inl 105) 1) - 1 : Int32), mx_uI (mx_uI h (.inl 114) (Int32.toNatClampNeg (h.2.1 (.inl 105) 1)) (-1)) (.inl 105) 1 (((mx_uI h (.inl 114) (Int32.toNatClampNeg (h.2.1 (.inl 105) 1)) (-1)).2.1 (.inl 105) 1) + 1))) else (x_h (f193 (h.2.1 (.inl 105) 1) (h.2.1 (.inl 119) (Int32.toNatClampNeg a1)) (h.2.1 (.inl 120) (Int32.toNatClampNeg a1)) h) (fun h2 => (Sum.inl ((a1 + 1), h2)))))
noncomputable def g194_61 (a1 : Int32) (h : mx_H) : Int32 × mx_H := ml_wh b194 (a1, h)
theorem g194_61_eq (a1 : Int32) (h : mx_H) : g194_61 a1 h = (if (h.2.1 (.inl 105) 19) ≤ a1 then ((((mx_uI (mx_uI h (.inl 114) (Int32.toNatClampNeg (h.2.1 (.inl 105) 1)) (-1)) (.inl 105) 1 (((mx_uI h (.inl 114) (Int32.toNatClampNeg (h.2.1 (.inl 105) 1)) (-1)).2.1 (.inl 105) 1) + 1)).2.1 (.inl 105) 1) - 1 : Int32), mx_uI (mx_uI h (.inl 114) (Int32.toNatClampNeg (h.2.1 (.inl 105) 1)) (-1)) (.inl 105) 1 (((mx_uI h (.inl 114) (Int32.toNatClampNeg (h.2.1 (.inl 105) 1)) (-1)).2.1 (.inl 105) 1) + 1)) else (x_h (f193 (h.2.1 (.inl 105) 1) (h.2.1 (.inl 119) (Int32.toNatClampNeg a1)) (h.2.1 (.inl 120) (Int32.toNatClampNeg a1)) h) (fun h2 => (g194_61 (a1 + 1) h2)))) := by
  unfold g194_61
  rw [ml_wh_eq]
  simp only [b194, ml_go_ite, ml_go_l, ml_go_r, ml_go_opt, ml_go_let, ml_go_h, ml_go_val]
  try rfl
noncomputable def f194  (h : mx_H) : Int32 × mx_H := x_box (if (h.2.1 (.inl 105) 1) ≠ 12 then (x_h (f192 h) (fun h2 => (if (h2.2.1 (.inl 105) 18) < 0 then (if ((h2.2.1 (.inl 105) 12) + (h2.2.1 (.inl 105) 19)) ≤ 200 then (g194_61 0 (mx_uI h2 (.inl 105) 16 0)) else (((-3) : Int32), h2)) else (((-100) - ((mx_uI h2 (.inl 105) 16 0).2.1 (.inl 105) 18) : Int32), mx_uI h2 (.inl 105) 16 0)))) else (((-3) : Int32), h))
theorem f194_eq  (h : mx_H) : f194  h = (if (h.2.1 (.inl 105) 1) ≠ 12 then (x_h (f192 h) (fun h2 => (if (h2.2.1 (.inl 105) 18) < 0 then (if ((h2.2.1 (.inl 105) 12) + (h2.2.1 (.inl 105) 19)) ≤ 200 then (g194_61 0 (mx_uI h2 (.inl 105) 16 0)) else (((-3) : Int32), h2)) else (((-100) - ((mx_uI h2 (.inl 105) 16 0).2.1 (.inl 105) 18) : Int32), mx_uI h2 (.inl 105) 16 0)))) else (((-3) : Int32), h)) := x_box_eq _
theorem xw194 {E : mx_Ev} {Q : Option mx_V → mx_H → Prop} : ∀ n : Nat, (∀ (a1 : Int32) (h : mx_H), (xK_i Q) (g194_61 a1 h) → mx_L E n 194 61 [(0, .inr (.inl 105)), (1, .inl (.int a1))] [] h Q)
  | 0 => fun _ _ _ => mx_L.zero
  | n + 1 => fun a1 h hK => sl194_61 (x_use (x_eq (K := (xK_i Q)) (g194_61_eq a1 h) hK) (fun hK => (x_ite hK (fun hK => (fun _ => hK)) (fun hK => (fun _ => (fun _ => (x193 (xh_n (x_hk hK (fun hK => ((xw194 n) _ _ hK)))))))))))
theorem x194 {E : mx_Ev} {n : Nat} {h : mx_H} {Q : Option mx_V → mx_H → Prop} (hK : (xK_i Q) (f194  h)) : mx_M E n 194 [.inr (.inl 105)] h Q := by
  cases n with
  | zero => exact mx_L.zero
  | succ n => exact sl194_0 (x_use (x_eq (K := (xK_i Q)) (f194_eq  h) hK) (fun hK => (x_ite hK (fun hK => (x192 (xh_n (x_hk hK (fun hK => (x_ite hK (fun hK => (x_ite hK (fun hK => ((xw194 n) _ _ hK)) (fun hK => hK))) (fun hK => hK))))))) (fun hK => hK))))
noncomputable def b195 : ((Int32 × Int32 × Int32 × mx_H)) → ((Int32 × Int32 × Int32 × mx_H)) ⊕ (Int32)
  | (a1, a2, a3, h) => (if (h.2.1 (.inl 106) (Int32.toNatClampNeg a1)) ≤ a3 then (Sum.inr (a2 : Int32)) else (if (h.2.1 (.inl 110) (Int32.toNatClampNeg ((6 * a1) + a3))) = 0 then (Sum.inl (a1, (a2 + 1), (a3 + 1), h)) else (Sum.inl (a1, (a2 + 0), (a3 + 1), h))))
noncomputable def g195_4 (a1 : Int32) (a2 : Int32) (a3 : Int32) (h : mx_H) : Int32 := ml_wh b195 (a1, a2, a3, h)
theorem g195_4_eq (a1 : Int32) (a2 : Int32) (a3 : Int32) (h : mx_H) : g195_4 a1 a2 a3 h = (if (h.2.1 (.inl 106) (Int32.toNatClampNeg a1)) ≤ a3 then (a2 : Int32) else (if (h.2.1 (.inl 110) (Int32.toNatClampNeg ((6 * a1) + a3))) = 0 then (g195_4 a1 (a2 + 1) (a3 + 1) h) else (g195_4 a1 (a2 + 0) (a3 + 1) h))) := by
  unfold g195_4
  rw [ml_wh_eq]
  simp only [b195, ml_go_ite, ml_go_l, ml_go_r, ml_go_opt, ml_go_let, ml_go_h, ml_go_val]
  try rfl
noncomputable def f195 (a1 : Int32) (h : mx_H) : Int32 := x_box (g195_4 a1 0 0 h)
theorem f195_eq (a1 : Int32) (h : mx_H) : f195 a1 h = (g195_4 a1 0 0 h) := x_box_eq _
theorem xw195 {E : mx_Ev} {Q : Option mx_V → mx_H → Prop} : ∀ n : Nat, (∀ (a1 : Int32) (a2 : Int32) (a3 : Int32) (h : mx_H), (xK_ip Q h) (g195_4 a1 a2 a3 h) → mx_L E n 195 4 [(0, .inr (.inl 105)), (1, .inl (.int a1)), (2, .inl (.int a2)), (3, .inl (.int a3))] [] h Q)
  | 0 => fun _ _ _ _ _ => mx_L.zero
  | n + 1 => fun a1 a2 a3 h hK => sl195_4 (x_use (x_eq (K := (xK_ip Q h)) (g195_4_eq a1 a2 a3 h) hK) (fun hK => (fun _ => (x_ite hK (fun hK => hK) (fun hK => (fun _ => (x_ite hK (fun hK => ((xw195 n) _ _ _ _ hK)) (fun hK => ((xw195 n) _ _ _ _ hK)))))))))
theorem x195 {E : mx_Ev} {n : Nat} {h : mx_H} {Q : Option mx_V → mx_H → Prop} {a1 : Int32} (hK : (xK_ip Q h) (f195 a1 h)) : mx_M E n 195 [.inr (.inl 105), .inl (.int a1)] h Q := by
  cases n with
  | zero => exact mx_L.zero
  | succ n => exact sl195_0 (x_use (x_eq (K := (xK_ip Q h)) (f195_eq a1 h) hK) (fun hK => ((xw195 n) _ _ _ _ hK)))
noncomputable def f196 (a1 : Int32) (a2 : Int32) (h : mx_H) : Int32 := x_box (if (f177 a1 h) = 0 then ((-2000000000) : Int32) else (if 0 ≤ a2 then (if 10 ≤ a2 then (if (f178 a1 (a2 - a2 / 10 * 10) h) ≠ 0 then (if 20 ≤ a2 then (if 30 ≤ a2 then (if 40 ≤ a2 then (if 50 ≤ a2 then ((-2000000000) : Int32) else (if (h.2.1 (.inl 110) (Int32.toNatClampNeg ((6 * a1) + (a2 - a2 / 10 * 10)))) = 0 then (0 : Int32) else (1 : Int32))) else (h.2.1 (.inl 109) (Int32.toNatClampNeg ((6 * a1) + (a2 - a2 / 10 * 10))) : Int32)) else (h.2.1 (.inl 108) (Int32.toNatClampNeg ((6 * a1) + (a2 - a2 / 10 * 10))) : Int32)) else (h.2.1 (.inl 107) (Int32.toNatClampNeg ((6 * a1) + (a2 - a2 / 10 * 10))) : Int32)) else ((-2000000000) : Int32)) else (if a2 ≠ 0 then (if a2 ≠ 1 then (if a2 ≠ 2 then ((-2000000000) : Int32) else ((f195 a1 h) : Int32)) else ((f183 a1 h) : Int32)) else (h.2.1 (.inl 106) (Int32.toNatClampNeg a1) : Int32))) else ((-2000000000) : Int32)))
noncomputable def f197 (a1 : Int32) (a2 : Int32) (a3 : Int32) (a4 : Int32) (h : mx_H) : Int32 := x_box (if (f177 a1 h) = 0 then ((-1) : Int32) else (if (f178 a1 a2 h) = 0 then ((-1) : Int32) else (if (f178 a1 a3 h) = 0 then ((-1) : Int32) else (if (f173 a4 0 2) ≠ 0 then (if a2 = a3 then ((-2) : Int32) else (if (f180 a1 a2 a3 h) ≠ 0 then (x_val (f179 a1 a2 a3) (fun x18 => (if a4 ≠ 0 then (if a4 ≠ 1 then (h.2.1 (.inl 112) (Int32.toNatClampNeg x18) : Int32) else (h.2.1 (.inl 111) (Int32.toNatClampNeg x18) : Int32)) else ((h.2.1 (.inl 113) (Int32.toNatClampNeg x18)) - 1 : Int32)))) else ((-2) : Int32))) else ((-1) : Int32)))))
