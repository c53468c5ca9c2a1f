/-! ===== methods as functions (10ze.x4) ===== -/
noncomputable def b261 : ((Int32 × Int32 × Int32 × mx_H) ⊕ (Int32 × Int32 × Int32 × Int32 × mx_H)) → ((Int32 × Int32 × Int32 × mx_H) ⊕ (Int32 × Int32 × Int32 × Int32 × mx_H)) ⊕ (Int32 × mx_H)
  | (.inl (a2, a3, a4, h)) => (if a2 ≤ a4 then (Sum.inr ((a3 : Int32), mx_uI h (.inl 105) 79 0)) else (Sum.inl (.inr (a2, a3, a4, 0, h))))
  | (.inr (a2, a3, a4, a5, h)) => (if (h.2.1 (.inl 105) 79) ≤ a5 then (x_let (f258 h) (fun x3 h2 => (Sum.inl (.inl (a2, (f175 a3 x3), (a4 + 1), h2))))) else (if (h.2.1 (.inl 157) (Int32.toNatClampNeg a5)) ≠ a4 then (Sum.inl (.inr (a2, a3, a4, (a5 + 1), h))) else (if (h.2.1 (.inl 105) 35) ≤ (h.2.1 (.inl 155) (Int32.toNatClampNeg a5)) then (Sum.inl (.inr (a2, a3, a4, (a5 + 1), h))) else (if (h.2.1 (.inl 130) (Int32.toNatClampNeg (h.2.1 (.inl 155) (Int32.toNatClampNeg a5)))) ≠ 0 then (Sum.inl (.inr (a2, a3, a4, (a5 + 1), h))) else (Sum.inl (.inr (a2, a3, a4, (a5 + 1), mx_uI h (.inl 152) (Int32.toNatClampNeg (h.2.1 (.inl 155) (Int32.toNatClampNeg a5))) ((h.2.1 (.inl 152) (Int32.toNatClampNeg (h.2.1 (.inl 155) (Int32.toNatClampNeg a5)))) + ((h.2.1 (.inl 156) (Int32.toNatClampNeg a5)) * 64)))))))))
noncomputable def g261_41 (a2 : Int32) (a3 : Int32) (a4 : Int32) (h : mx_H) : Int32 × mx_H := ml_wh b261 (.inl (a2, a3, a4, h))
noncomputable def g261_50 (a2 : Int32) (a3 : Int32) (a4 : Int32) (a5 : Int32) (h : mx_H) : Int32 × mx_H := ml_wh b261 (.inr (a2, a3, a4, a5, h))
theorem g261_41_eq (a2 : Int32) (a3 : Int32) (a4 : Int32) (h : mx_H) : g261_41 a2 a3 a4 h = (if a2 ≤ a4 then ((a3 : Int32), mx_uI h (.inl 105) 79 0) else (g261_50 a2 a3 a4 0 h)) := by
  unfold g261_41
  rw [ml_wh_eq]
  simp only [b261, ml_go_ite, ml_go_l, ml_go_r, ml_go_opt, ml_go_let, ml_go_h, ml_go_val]
  try rfl
theorem g261_50_eq (a2 : Int32) (a3 : Int32) (a4 : Int32) (a5 : Int32) (h : mx_H) : g261_50 a2 a3 a4 a5 h = (if (h.2.1 (.inl 105) 79) ≤ a5 then (x_let (f258 h) (fun x3 h2 => (g261_41 a2 (f175 a3 x3) (a4 + 1) h2))) else (if (h.2.1 (.inl 157) (Int32.toNatClampNeg a5)) ≠ a4 then (g261_50 a2 a3 a4 (a5 + 1) h) else (if (h.2.1 (.inl 105) 35) ≤ (h.2.1 (.inl 155) (Int32.toNatClampNeg a5)) then (g261_50 a2 a3 a4 (a5 + 1) h) else (if (h.2.1 (.inl 130) (Int32.toNatClampNeg (h.2.1 (.inl 155) (Int32.toNatClampNeg a5)))) ≠ 0 then (g261_50 a2 a3 a4 (a5 + 1) h) else (g261_50 a2 a3 a4 (a5 + 1) (mx_uI h (.inl 152) (Int32.toNatClampNeg (h.2.1 (.inl 155) (Int32.toNatClampNeg a5))) ((h.2.1 (.inl 152) (Int32.toNatClampNeg (h.2.1 (.inl 155) (Int32.toNatClampNeg a5)))) + ((h.2.1 (.inl 156) (Int32.toNatClampNeg a5)) * 64)))))))) := by
  unfold g261_50
  rw [ml_wh_eq]
  simp only [b261, ml_go_ite, ml_go_l, ml_go_r, ml_go_opt, ml_go_let, ml_go_h, ml_go_val]
  try rfl
noncomputable def f261 (a1 : Int32) (a2 : Int32) (h : mx_H) : Int32 × mx_H := x_box (if (f177 a1 h) = 0 then (((-1) : Int32), h) else (if (f173 a2 1 200) ≠ 0 then (if (h.2.1 (.inl 105) 79) ≠ 0 then (x_h (f257 a1 h) (fun h8 => (g261_41 a2 0 0 h8))) else (((-4) : Int32), h)) else (((-1) : Int32), h)))
theorem f261_eq (a1 : Int32) (a2 : Int32) (h : mx_H) : f261 a1 a2 h = (if (f177 a1 h) = 0 then (((-1) : Int32), h) else (if (f173 a2 1 200) ≠ 0 then (if (h.2.1 (.inl 105) 79) ≠ 0 then (x_h (f257 a1 h) (fun h8 => (g261_41 a2 0 0 h8))) else (((-4) : Int32), h)) else (((-1) : Int32), h))) := x_box_eq _
theorem xw261 {E : mx_Ev} {Q : Option mx_V → mx_H → Prop} : ∀ n : Nat, (∀ (a2 : Int32) (a3 : Int32) (a4 : Int32) (h : mx_H), (xK_i Q) (g261_41 a2 a3 a4 h) → mx_L E n 261 41 [(0, .inr (.inl 105)), (2, .inl (.int a2)), (3, .inl (.int a3)), (4, .inl (.int a4))] [] h Q) ∧ (∀ (a2 : Int32) (a3 : Int32) (a4 : Int32) (a5 : Int32) (h : mx_H), (xK_i Q) (g261_50 a2 a3 a4 a5 h) → mx_L E n 261 50 [(0, .inr (.inl 105)), (2, .inl (.int a2)), (3, .inl (.int a3)), (4, .inl (.int a4)), (5, .inl (.int a5))] [] h Q)
  | 0 => ⟨fun _ _ _ _ _ => mx_L.zero, fun _ _ _ _ _ _ => mx_L.zero⟩
  | n + 1 => ⟨fun a2 a3 a4 h hK => sl261_41 (x_use (x_eq (K := (xK_i Q)) (g261_41_eq a2 a3 a4 h) hK) (fun hK => (x_ite hK (fun hK => hK) (fun hK => ((xw261 n).2 _ _ _ _ _ hK))))), fun a2 a3 a4 a5 h hK => sl261_50 (x_use (x_eq (K := (xK_i Q)) (g261_50_eq a2 a3 a4 a5 h) hK) (fun hK => (x_ite hK (fun hK => (x258 (xh_i (x_letk hK (fun hK => (x175 (xh_i ((xw261 n).1 _ _ _ _ hK)))))))) (fun hK => (fun _ => (x_ite hK (fun hK => ((xw261 n).2 _ _ _ _ _ hK)) (fun hK => (fun _ => (x_ite hK (fun hK => ((xw261 n).2 _ _ _ _ _ hK)) (fun hK => (fun _ => (fun _ => (x_ite hK (fun hK => ((xw261 n).2 _ _ _ _ _ hK)) (fun hK => (fun _ => (fun _ => (fun _ => (fun _ => ((xw261 n).2 _ _ _ _ _ hK)))))))))))))))))))⟩
theorem x261 {E : mx_Ev} {n : Nat} {h : mx_H} {Q : Option mx_V → mx_H → Prop} {a1 : Int32} {a2 : Int32} (hK : (xK_i Q) (f261 a1 a2 h)) : mx_M E n 261 [.inr (.inl 105), .inl (.int a1), .inl (.int a2)] h Q := by
  cases n with
  | zero => exact mx_L.zero
  | succ n => exact sl261_0 (x_use (x_eq (K := (xK_i Q)) (f261_eq a1 a2 h) hK) (fun hK => (x177 (xh_i (x_ite hK (fun hK => hK) (fun hK => (x173 (xh_i (x_ite hK (fun hK => (x_ite hK (fun hK => (x257 (xh_n (x_hk hK (fun hK => ((xw261 n).1 _ _ _ _ hK)))))) (fun hK => hK))) (fun hK => hK))))))))))
noncomputable def f262 (a1 : Int32) (a2 : Int32) (h : mx_H) : Int32 := x_box (if (f255 a1) = 0 then ((-2000000000) : Int32) else (if (f173 a2 1 (h.2.1 (.inl 105) 74)) = 0 then ((-2000000000) : Int32) else (if (h.2.1 (.inl 150) (Int32.toNatClampNeg a1)) < 0 then ((-2000000000) : Int32) else (h.2.1 (.inl 154) (Int32.toNatClampNeg (((200 * a1) + a2) - 1)) : Int32))))
theorem f262_eq (a1 : Int32) (a2 : Int32) (h : mx_H) : f262 a1 a2 h = (if (f255 a1) = 0 then ((-2000000000) : Int32) else (if (f173 a2 1 (h.2.1 (.inl 105) 74)) = 0 then ((-2000000000) : Int32) else (if (h.2.1 (.inl 150) (Int32.toNatClampNeg a1)) < 0 then ((-2000000000) : Int32) else (h.2.1 (.inl 154) (Int32.toNatClampNeg (((200 * a1) + a2) - 1)) : Int32)))) := x_box_eq _
theorem x262 {E : mx_Ev} {n : Nat} {h : mx_H} {Q : Option mx_V → mx_H → Prop} {a1 : Int32} {a2 : Int32} (hK : (xK_ip Q h) (f262 a1 a2 h)) : mx_M E n 262 [.inr (.inl 105), .inl (.int a1), .inl (.int a2)] h Q := by
  cases n with
  | zero => exact mx_L.zero
  | succ n => exact sl262_0 (x_use (x_eq (K := (xK_ip Q h)) (f262_eq a1 a2 h) hK) (fun hK => (x255 (xh_i (x_ite hK (fun hK => hK) (fun hK => (x173 (xh_i (x_ite hK (fun hK => hK) (fun hK => (fun _ => (x_ite hK (fun hK => hK) (fun hK => (fun _ => hK))))))))))))))
noncomputable def b263 : ((Int32 × Int32 × Int32 × mx_H) ⊕ (Int32 × Int32 × Int32 × mx_H)) → ((Int32 × Int32 × Int32 × mx_H) ⊕ (Int32 × Int32 × Int32 × mx_H)) ⊕ (Int32)
  | (.inl (a1, a3, a4, h)) => (if (h.2.1 (.inl 105) 74) ≤ a4 then (Sum.inr (a3 : Int32)) else (Sum.inl (.inl (a1, (f175 a3 (f176 (h.2.1 (.inl 154) (Int32.toNatClampNeg ((200 * a1) + a4))))), (a4 + 1), h))))
  | (.inr (a1, a2, a3, h)) => (if a3 ≤ 0 then (Sum.inr ((f174 (a3 + 1) (h.2.1 (.inl 105) 74)) : Int32)) else (if a2 < (f176 (h.2.1 (.inl 154) (Int32.toNatClampNeg (((200 * a1) + a3) - 1)))) then (Sum.inr ((f174 (a3 + 1) (h.2.1 (.inl 105) 74)) : Int32)) else (Sum.inl (.inr (a1, a2, (a3 + (-1)), h)))))
noncomputable def g263_43 (a1 : Int32) (a3 : Int32) (a4 : Int32) (h : mx_H) : Int32 := ml_wh b263 (.inl (a1, a3, a4, h))
noncomputable def g263_86 (a1 : Int32) (a2 : Int32) (a3 : Int32) (h : mx_H) : Int32 := ml_wh b263 (.inr (a1, a2, a3, h))
theorem g263_43_eq (a1 : Int32) (a3 : Int32) (a4 : Int32) (h : mx_H) : g263_43 a1 a3 a4 h = (if (h.2.1 (.inl 105) 74) ≤ a4 then (a3 : Int32) else (g263_43 a1 (f175 a3 (f176 (h.2.1 (.inl 154) (Int32.toNatClampNeg ((200 * a1) + a4))))) (a4 + 1) h)) := by
  unfold g263_43
  rw [ml_wh_eq]
  simp only [b263, ml_go_ite, ml_go_l, ml_go_r, ml_go_opt, ml_go_let, ml_go_h, ml_go_val]
  try rfl
theorem g263_86_eq (a1 : Int32) (a2 : Int32) (a3 : Int32) (h : mx_H) : g263_86 a1 a2 a3 h = (if a3 ≤ 0 then ((f174 (a3 + 1) (h.2.1 (.inl 105) 74)) : Int32) else (if a2 < (f176 (h.2.1 (.inl 154) (Int32.toNatClampNeg (((200 * a1) + a3) - 1)))) then ((f174 (a3 + 1) (h.2.1 (.inl 105) 74)) : Int32) else (g263_86 a1 a2 (a3 + (-1)) h))) := by
  unfold g263_86
  rw [ml_wh_eq]
  simp only [b263, ml_go_ite, ml_go_l, ml_go_r, ml_go_opt, ml_go_let, ml_go_h, ml_go_val]
  try rfl
noncomputable def f263 (a1 : Int32) (a2 : Int32) (h : mx_H) : Int32 := x_box (if (f255 a1) = 0 then ((-1) : Int32) else (if (-1) ≤ a2 then (if (h.2.1 (.inl 105) 74) = 0 then ((-4) : Int32) else (if 0 ≤ (h.2.1 (.inl 150) (Int32.toNatClampNeg a1)) then (if a2 ≠ (-1) then (g263_86 a1 a2 (h.2.1 (.inl 105) 74) h) else (g263_43 a1 0 0 h)) else ((-4) : Int32))) else ((-1) : Int32)))
theorem f263_eq (a1 : Int32) (a2 : Int32) (h : mx_H) : f263 a1 a2 h = (if (f255 a1) = 0 then ((-1) : Int32) else (if (-1) ≤ a2 then (if (h.2.1 (.inl 105) 74) = 0 then ((-4) : Int32) else (if 0 ≤ (h.2.1 (.inl 150) (Int32.toNatClampNeg a1)) then (if a2 ≠ (-1) then (g263_86 a1 a2 (h.2.1 (.inl 105) 74) h) else (g263_43 a1 0 0 h)) else ((-4) : Int32))) else ((-1) : Int32))) := x_box_eq _
theorem xw263 {E : mx_Ev} {Q : Option mx_V → mx_H → Prop} : ∀ n : Nat, (∀ (a1 : Int32) (a3 : Int32) (a4 : Int32) (h : mx_H), (xK_ip Q h) (g263_43 a1 a3 a4 h) → mx_L E n 263 43 [(0, .inr (.inl 105)), (1, .inl (.int a1)), (3, .inl (.int a3)), (4, .inl (.int a4))] [] h Q) ∧ (∀ (a1 : Int32) (a2 : Int32) (a3 : Int32) (h : mx_H), (xK_ip Q h) (g263_86 a1 a2 a3 h) → mx_L E n 263 86 [(0, .inr (.inl 105)), (1, .inl (.int a1)), (2, .inl (.int a2)), (3, .inl (.int a3))] [] h Q)
  | 0 => ⟨fun _ _ _ _ _ => mx_L.zero, fun _ _ _ _ _ => mx_L.zero⟩
  | n + 1 => ⟨fun a1 a3 a4 h hK => sl263_43 (x_use (x_eq (K := (xK_ip Q h)) (g263_43_eq a1 a3 a4 h) hK) (fun hK => (x_ite hK (fun hK => hK) (fun hK => (fun _ => (x176 (xh_i (x175 (xh_i ((xw263 n).1 _ _ _ _ hK)))))))))), fun a1 a2 a3 h hK => sl263_86 (x_use (x_eq (K := (xK_ip Q h)) (g263_86_eq a1 a2 a3 h) hK) (fun hK => (x_ite hK (fun hK => (x174 (xh_i hK))) (fun hK => (fun _ => (x176 (xh_i (x_ite hK (fun hK => (x174 (xh_i hK))) (fun hK => ((xw263 n).2 _ _ _ _ hK))))))))))⟩
theorem x263 {E : mx_Ev} {n : Nat} {h : mx_H} {Q : Option mx_V → mx_H → Prop} {a1 : Int32} {a2 : Int32} (hK : (xK_ip Q h) (f263 a1 a2 h)) : mx_M E n 263 [.inr (.inl 105), .inl (.int a1), .inl (.int a2)] h Q := by
  cases n with
  | zero => exact mx_L.zero
  | succ n => exact sl263_0 (x_use (x_eq (K := (xK_ip Q h)) (f263_eq a1 a2 h) hK) (fun hK => (x255 (xh_i (x_ite hK (fun hK => hK) (fun hK => (x_ite hK (fun hK => (x_ite hK (fun hK => hK) (fun hK => (fun _ => (x_ite hK (fun hK => (x_ite hK (fun hK => ((xw263 n).2 _ _ _ _ hK)) (fun hK => ((xw263 n).1 _ _ _ _ hK)))) (fun hK => hK)))))) (fun hK => hK))))))))
noncomputable def f264 (a1 : Int32) (h : mx_H) : Int32 := x_box (if (-2) < (h.2.1 (.inl 163) (Int32.toNatClampNeg a1)) then (0 : Int32) else (if (h.2.1 (.inl 163) (Int32.toNatClampNeg a1)) < (-4) then (0 : Int32) else (1 : Int32)))
theorem f264_eq (a1 : Int32) (h : mx_H) : f264 a1 h = (if (-2) < (h.2.1 (.inl 163) (Int32.toNatClampNeg a1)) then (0 : Int32) else (if (h.2.1 (.inl 163) (Int32.toNatClampNeg a1)) < (-4) then (0 : Int32) else (1 : Int32))) := x_box_eq _
theorem x264 {E : mx_Ev} {n : Nat} {h : mx_H} {Q : Option mx_V → mx_H → Prop} {a1 : Int32} (hK : (xK_ip Q h) (f264 a1 h)) : mx_M E n 264 [.inr (.inl 105), .inl (.int a1)] h Q := by
  cases n with
  | zero => exact mx_L.zero
  | succ n => exact sl264_0 (x_use (x_eq (K := (xK_ip Q h)) (f264_eq a1 h) hK) (fun hK => (fun _ => (x_ite hK (fun hK => (fun _ => hK)) (fun hK => (fun _ => (x_ite hK (fun hK => (fun _ => hK)) (fun hK => (fun _ => hK)))))))))
noncomputable def f265 (a0 : Int32) : Int32 := x_box (if a0 ≠ 0 then (if a0 ≠ 1 then (2147483647 : Int32) else (32767 : Int32)) else (127 : Int32))
theorem f265_eq (a0 : Int32) : f265 a0 = (if a0 ≠ 0 then (if a0 ≠ 1 then (2147483647 : Int32) else (32767 : Int32)) else (127 : Int32)) := x_box_eq _
theorem x265 {E : mx_Ev} {n : Nat} {h : mx_H} {Q : Option mx_V → mx_H → Prop} {a0 : Int32} (hK : (xK_ip Q h) (f265 a0)) : mx_M E n 265 [.inl (.int a0)] h Q := by
  cases n with
  | zero => exact mx_L.zero
  | succ n => exact sl265_0 (x_use (x_eq (K := (xK_ip Q h)) (f265_eq a0) hK) (fun hK => (x_ite hK (fun hK => (x_ite hK (fun hK => hK) (fun hK => hK))) (fun hK => hK))))
noncomputable def f300 (a0 : Int32) : Int32 := x_box ((f173 a0 0 5) : Int32)
theorem f300_eq (a0 : Int32) : f300 a0 = ((f173 a0 0 5) : Int32) := x_box_eq _
theorem x300 {E : mx_Ev} {n : Nat} {h : mx_H} {Q : Option mx_V → mx_H → Prop} {a0 : Int32} (hK : (xK_ip Q h) (f300 a0)) : mx_M E n 300 [.inl (.int a0)] h Q := by
  cases n with
  | zero => exact mx_L.zero
  | succ n => exact sl300_0 (x_use (x_eq (K := (xK_ip Q h)) (f300_eq a0) hK) (fun hK => (x173 (xh_i (fun _ => hK)))))
noncomputable def b266 : ((Int32 × Int32 × Int32 × Int32 × Int32 × Int32 × mx_H)) → ((Int32 × Int32 × Int32 × Int32 × Int32 × Int32 × mx_H)) ⊕ (Int32 × mx_H)
  | (a1, a2, a3, a4, a5, a6, h) => (if a4 ≤ a6 then (Sum.inr ((a6 : Int32), h)) else (if (h.2.1 (.inl 105) 74) ≤ a6 then (Sum.inr ((a6 : Int32), h)) else (if (h.2.1 (.inl 164) (Int32.toNatClampNeg a2)) ≤ (a3 + a6) then (Sum.inr ((a6 : Int32), h)) else (if (h.2.1 (.inl 154) (Int32.toNatClampNeg ((200 * a1) + a6))) ≤ a5 then (if (-a5) ≤ (h.2.1 (.inl 154) (Int32.toNatClampNeg ((200 * a1) + a6))) then (Sum.inl (a1, a2, a3, a4, a5, (a6 + 1), mx_uL h (.inl 165) (Int32.toNatClampNeg (((60 * a2) + a3) + a6)) (Int32.toInt64 (h.2.1 (.inl 154) (Int32.toNatClampNeg ((200 * a1) + a6)))))) else (Sum.inl (a1, a2, a3, a4, a5, (a6 + 1), mx_uL h (.inl 165) (Int32.toNatClampNeg (((60 * a2) + a3) + a6)) (Int32.toInt64 (-a5))))) else (Sum.inl (a1, a2, a3, a4, a5, (a6 + 1), mx_uL h (.inl 165) (Int32.toNatClampNeg (((60 * a2) + a3) + a6)) (Int32.toInt64 a5)))))))
noncomputable def g266_106 (a1 : Int32) (a2 : Int32) (a3 : Int32) (a4 : Int32) (a5 : Int32) (a6 : Int32) (h : mx_H) : Int32 × mx_H := ml_wh b266 (a1, a2, a3, a4, a5, a6, h)
theorem g266_106_eq (a1 : Int32) (a2 : Int32) (a3 : Int32) (a4 : Int32) (a5 : Int32) (a6 : Int32) (h : mx_H) : g266_106 a1 a2 a3 a4 a5 a6 h = (if a4 ≤ a6 then ((a6 : Int32), h) else (if (h.2.1 (.inl 105) 74) ≤ a6 then ((a6 : Int32), h) else (if (h.2.1 (.inl 164) (Int32.toNatClampNeg a2)) ≤ (a3 + a6) then ((a6 : Int32), h) else (if (h.2.1 (.inl 154) (Int32.toNatClampNeg ((200 * a1) + a6))) ≤ a5 then (if (-a5) ≤ (h.2.1 (.inl 154) (Int32.toNatClampNeg ((200 * a1) + a6))) then (g266_106 a1 a2 a3 a4 a5 (a6 + 1) (mx_uL h (.inl 165) (Int32.toNatClampNeg (((60 * a2) + a3) + a6)) (Int32.toInt64 (h.2.1 (.inl 154) (Int32.toNatClampNeg ((200 * a1) + a6)))))) else (g266_106 a1 a2 a3 a4 a5 (a6 + 1) (mx_uL h (.inl 165) (Int32.toNatClampNeg (((60 * a2) + a3) + a6)) (Int32.toInt64 (-a5))))) else (g266_106 a1 a2 a3 a4 a5 (a6 + 1) (mx_uL h (.inl 165) (Int32.toNatClampNeg (((60 * a2) + a3) + a6)) (Int32.toInt64 a5))))))) := by
  unfold g266_106
  rw [ml_wh_eq]
  simp only [b266, ml_go_ite, ml_go_l, ml_go_r, ml_go_opt, ml_go_let, ml_go_h, ml_go_val]
  try rfl
noncomputable def f266 (a1 : Int32) (a2 : Int32) (a3 : Int32) (a4 : Int32) (h : mx_H) : Int32 × mx_H := x_box (if (f255 a1) = 0 then (((-1) : Int32), h) else (if (f300 a2) = 0 then (((-1) : Int32), h) else (if (f173 a4 1 60) ≠ 0 then (if (h.2.1 (.inl 105) 74) = 0 then (((-4) : Int32), h) else (if 0 ≤ (h.2.1 (.inl 150) (Int32.toNatClampNeg a1)) then (if (h.2.1 (.inl 163) (Int32.toNatClampNeg a2)) ≠ (-1) then (if (f264 a2 h) ≠ 0 then (if (f173 a3 0 ((h.2.1 (.inl 164) (Int32.toNatClampNeg a2)) - 1)) ≠ 0 then (g266_106 a1 a2 a3 a4 (f265 ((-2) - (h.2.1 (.inl 163) (Int32.toNatClampNeg a2)))) 0 h) else (((-13) : Int32), h)) else (((-12) : Int32), h)) else (((-11) : Int32), h)) else (((-4) : Int32), h))) else (((-1) : Int32), h))))
theorem f266_eq (a1 : Int32) (a2 : Int32) (a3 : Int32) (a4 : Int32) (h : mx_H) : f266 a1 a2 a3 a4 h = (if (f255 a1) = 0 then (((-1) : Int32), h) else (if (f300 a2) = 0 then (((-1) : Int32), h) else (if (f173 a4 1 60) ≠ 0 then (if (h.2.1 (.inl 105) 74) = 0 then (((-4) : Int32), h) else (if 0 ≤ (h.2.1 (.inl 150) (Int32.toNatClampNeg a1)) then (if (h.2.1 (.inl 163) (Int32.toNatClampNeg a2)) ≠ (-1) then (if (f264 a2 h) ≠ 0 then (if (f173 a3 0 ((h.2.1 (.inl 164) (Int32.toNatClampNeg a2)) - 1)) ≠ 0 then (g266_106 a1 a2 a3 a4 (f265 ((-2) - (h.2.1 (.inl 163) (Int32.toNatClampNeg a2)))) 0 h) else (((-13) : Int32), h)) else (((-12) : Int32), h)) else (((-11) : Int32), h)) else (((-4) : Int32), h))) else (((-1) : Int32), h)))) := x_box_eq _
theorem xw266 {E : mx_Ev} {Q : Option mx_V → mx_H → Prop} : ∀ n : Nat, (∀ (a1 : Int32) (a2 : Int32) (a3 : Int32) (a4 : Int32) (a5 : Int32) (a6 : Int32) (h : mx_H), (xK_i Q) (g266_106 a1 a2 a3 a4 a5 a6 h) → mx_L E n 266 106 [(0, .inr (.inl 105)), (1, .inl (.int a1)), (2, .inl (.int a2)), (3, .inl (.int a3)), (4, .inl (.int a4)), (5, .inl (.int a5)), (6, .inl (.int a6))] [] h Q)
  | 0 => fun _ _ _ _ _ _ _ _ => mx_L.zero
  | n + 1 => fun a1 a2 a3 a4 a5 a6 h hK => sl266_106 (x_use (x_eq (K := (xK_i Q)) (g266_106_eq a1 a2 a3 a4 a5 a6 h) hK) (fun hK => (x_ite hK (fun hK => hK) (fun hK => (x_ite hK (fun hK => hK) (fun hK => (fun _ => (x_ite hK (fun hK => hK) (fun hK => (fun _ => (x_ite hK (fun hK => (x_ite hK (fun hK => (fun _ => ((xw266 n) _ _ _ _ _ _ _ hK))) (fun hK => (fun _ => ((xw266 n) _ _ _ _ _ _ _ hK))))) (fun hK => (fun _ => ((xw266 n) _ _ _ _ _ _ _ hK))))))))))))))
theorem x266 {E : mx_Ev} {n : Nat} {h : mx_H} {Q : Option mx_V → mx_H → Prop} {a1 : Int32} {a2 : Int32} {a3 : Int32} {a4 : Int32} (hK : (xK_i Q) (f266 a1 a2 a3 a4 h)) : mx_M E n 266 [.inr (.inl 105), .inl (.int a1), .inl (.int a2), .inl (.int a3), .inl (.int a4)] h Q := by
  cases n with
  | zero => exact mx_L.zero
  | succ n => exact sl266_0 (x_use (x_eq (K := (xK_i Q)) (f266_eq a1 a2 a3 a4 h) hK) (fun hK => (x255 (xh_i (x_ite hK (fun hK => hK) (fun hK => (x300 (xh_i (x_ite hK (fun hK => hK) (fun hK => (x173 (xh_i (x_ite hK (fun hK => (x_ite hK (fun hK => hK) (fun hK => (fun _ => (x_ite hK (fun hK => (fun _ => (x_ite hK (fun hK => (x264 (xh_i (x_ite hK (fun hK => (fun _ => (x173 (xh_i (x_ite hK (fun hK => (fun _ => (x265 (xh_i ((xw266 n) _ _ _ _ _ _ _ hK))))) (fun hK => hK)))))) (fun hK => hK))))) (fun hK => hK)))) (fun hK => hK)))))) (fun hK => hK))))))))))))))
noncomputable def f267 (a1 : Int32) (a2 : Int32) (h : mx_H) : Int64 := x_box (if (lg_cmp (h.2.2.1 (.inl 165) (Int32.toNatClampNeg ((60 * a1) + a2))) ((-1) - (Int32.toInt64 (f265 ((-2) - (h.2.1 (.inl 163) (Int32.toNatClampNeg a1))))))) ≠ 0 then (h.2.2.1 (.inl 165) (Int32.toNatClampNeg ((60 * a1) + a2)) : Int64) else (0 : Int64))
theorem f267_eq (a1 : Int32) (a2 : Int32) (h : mx_H) : f267 a1 a2 h = (if (lg_cmp (h.2.2.1 (.inl 165) (Int32.toNatClampNeg ((60 * a1) + a2))) ((-1) - (Int32.toInt64 (f265 ((-2) - (h.2.1 (.inl 163) (Int32.toNatClampNeg a1))))))) ≠ 0 then (h.2.2.1 (.inl 165) (Int32.toNatClampNeg ((60 * a1) + a2)) : Int64) else (0 : Int64)) := x_box_eq _
theorem x267 {E : mx_Ev} {n : Nat} {h : mx_H} {Q : Option mx_V → mx_H → Prop} {a1 : Int32} {a2 : Int32} (hK : (xK_lp Q h) (f267 a1 a2 h)) : mx_M E n 267 [.inr (.inl 105), .inl (.int a1), .inl (.int a2)] h Q := by
  cases n with
  | zero => exact mx_L.zero
  | succ n => exact sl267_0 (x_use (x_eq (K := (xK_lp Q h)) (f267_eq a1 a2 h) hK) (fun hK => (fun _ => (fun _ => (x265 (xh_i (x_ite hK (fun hK => hK) (fun hK => hK))))))))
noncomputable def f268 (a0 : Int32) (a1 : Int32) : Int32 := x_box (if (a0 - (2 * (a1 - a1 / a0 * a0))) ≤ 0 then (if 0 ≤ (a0 - (2 * (a1 - a1 / a0 * a0))) then (0 : Int32) else ((-1) : Int32)) else (1 : Int32))
theorem f268_eq (a0 : Int32) (a1 : Int32) : f268 a0 a1 = (if (a0 - (2 * (a1 - a1 / a0 * a0))) ≤ 0 then (if 0 ≤ (a0 - (2 * (a1 - a1 / a0 * a0))) then (0 : Int32) else ((-1) : Int32)) else (1 : Int32)) := x_box_eq _
theorem x268 {E : mx_Ev} {n : Nat} {h : mx_H} {Q : Option mx_V → mx_H → Prop} {a0 : Int32} {a1 : Int32} (hK : (xK_ip Q h) (f268 a0 a1)) : mx_M E n 268 [.inl (.int a0), .inl (.int a1)] h Q := by
  cases n with
  | zero => exact mx_L.zero
  | succ n => exact sl268_0 (x_use (x_eq (K := (xK_ip Q h)) (f268_eq a0 a1) hK) (fun hK => (fun _ => (x_ite hK (fun hK => (x_ite hK (fun hK => hK) (fun hK => hK))) (fun hK => hK)))))
noncomputable def b269 : ((Int32 × Int32 × Int64 × Int64 × Int32 × mx_H)) → ((Int32 × Int32 × Int64 × Int64 × Int32 × mx_H)) ⊕ (Int64)
  | (a1, a2, a3, a5, a7, h) => (if (h.2.1 (.inl 164) (Int32.toNatClampNeg a1)) ≤ a7 then (if 0 ≤ (lg_cmp a3 0) then (if 0 ≤ (lg_cmp a5 0) then (if (lg_cmp a3 a5) ≤ 0 then (Sum.inr (a5 + (a3 / 2) : Int64)) else (Sum.inr (a3 + (a5 / 2) : Int64))) else (if (lg_cmp a3 (-a5)) ≤ 0 then (Sum.inr ((-a5) + (a3 / 2) : Int64)) else (Sum.inr (a3 + ((-a5) / 2) : Int64)))) else (if 0 ≤ (lg_cmp a5 0) then (if (lg_cmp (-a3) a5) ≤ 0 then (Sum.inr (a5 + ((-a3) / 2) : Int64)) else (Sum.inr ((-a3) + (a5 / 2) : Int64))) else (if (lg_cmp (-a3) (-a5)) ≤ 0 then (Sum.inr ((-a5) + ((-a3) / 2) : Int64)) else (Sum.inr ((-a3) + ((-a5) / 2) : Int64))))) else (Sum.inl (a1, a2, (a3 + ((f267 a1 a7 h) * (Int32.toInt64 (f268 a2 a7)))), (a5 + ((f267 a1 a7 h) * (Int32.toInt64 (f268 a2 (a7 + (a2 / 4)))))), (a7 + 1), h)))
noncomputable def g269_8 (a1 : Int32) (a2 : Int32) (a3 : Int64) (a5 : Int64) (a7 : Int32) (h : mx_H) : Int64 := ml_wh b269 (a1, a2, a3, a5, a7, h)
theorem g269_8_eq (a1 : Int32) (a2 : Int32) (a3 : Int64) (a5 : Int64) (a7 : Int32) (h : mx_H) : g269_8 a1 a2 a3 a5 a7 h = (if (h.2.1 (.inl 164) (Int32.toNatClampNeg a1)) ≤ a7 then (if 0 ≤ (lg_cmp a3 0) then (if 0 ≤ (lg_cmp a5 0) then (if (lg_cmp a3 a5) ≤ 0 then (a5 + (a3 / 2) : Int64) else (a3 + (a5 / 2) : Int64)) else (if (lg_cmp a3 (-a5)) ≤ 0 then ((-a5) + (a3 / 2) : Int64) else (a3 + ((-a5) / 2) : Int64))) else (if 0 ≤ (lg_cmp a5 0) then (if (lg_cmp (-a3) a5) ≤ 0 then (a5 + ((-a3) / 2) : Int64) else ((-a3) + (a5 / 2) : Int64)) else (if (lg_cmp (-a3) (-a5)) ≤ 0 then ((-a5) + ((-a3) / 2) : Int64) else ((-a3) + ((-a5) / 2) : Int64)))) else (g269_8 a1 a2 (a3 + ((f267 a1 a7 h) * (Int32.toInt64 (f268 a2 a7)))) (a5 + ((f267 a1 a7 h) * (Int32.toInt64 (f268 a2 (a7 + (a2 / 4)))))) (a7 + 1) h)) := by
  unfold g269_8
  rw [ml_wh_eq]
  simp only [b269, ml_go_ite, ml_go_l, ml_go_r, ml_go_opt, ml_go_let, ml_go_h, ml_go_val]
  try rfl
noncomputable def f269 (a1 : Int32) (a2 : Int32) (h : mx_H) : Int64 := x_box (g269_8 a1 a2 0 0 0 h)
theorem f269_eq (a1 : Int32) (a2 : Int32) (h : mx_H) : f269 a1 a2 h = (g269_8 a1 a2 0 0 0 h) := x_box_eq _
theorem xw269 {E : mx_Ev} {Q : Option mx_V → mx_H → Prop} : ∀ n : Nat, (∀ (a1 : Int32) (a2 : Int32) (a3 : Int64) (a5 : Int64) (a7 : Int32) (h : mx_H), (xK_lp Q h) (g269_8 a1 a2 a3 a5 a7 h) → mx_L E n 269 8 [(0, .inr (.inl 105)), (1, .inl (.int a1)), (2, .inl (.int a2)), (3, .inl (.long a3)), (5, .inl (.long a5)), (7, .inl (.int a7))] [] h Q)
  | 0 => fun _ _ _ _ _ _ _ => mx_L.zero
  | n + 1 => fun a1 a2 a3 a5 a7 h hK => sl269_8 (x_use (x_eq (K := (xK_lp Q h)) (g269_8_eq a1 a2 a3 a5 a7 h) hK) (fun hK => (fun _ => (x_ite hK (fun hK => (x_ite hK (fun hK => (x_ite hK (fun hK => (x_ite hK (fun hK => (fun _ => hK)) (fun hK => (fun _ => hK)))) (fun hK => (x_ite hK (fun hK => (fun _ => hK)) (fun hK => (fun _ => hK)))))) (fun hK => (x_ite hK (fun hK => (x_ite hK (fun hK => (fun _ => hK)) (fun hK => (fun _ => hK)))) (fun hK => (x_ite hK (fun hK => (fun _ => hK)) (fun hK => (fun _ => hK)))))))) (fun hK => (x267 (xh_l (x268 (xh_i (x267 (xh_l (fun _ => (x268 (xh_i ((xw269 n) _ _ _ _ _ _ hK)))))))))))))))
theorem x269 {E : mx_Ev} {n : Nat} {h : mx_H} {Q : Option mx_V → mx_H → Prop} {a1 : Int32} {a2 : Int32} (hK : (xK_lp Q h) (f269 a1 a2 h)) : mx_M E n 269 [.inr (.inl 105), .inl (.int a1), .inl (.int a2)] h Q := by
  cases n with
  | zero => exact mx_L.zero
  | succ n => exact sl269_0 (x_use (x_eq (K := (xK_lp Q h)) (f269_eq a1 a2 h) hK) (fun hK => ((xw269 n) _ _ _ _ _ _ hK)))
noncomputable def f270 (a1 : Int32) (h : mx_H) : Int32 := x_box (if (f300 a1) ≠ 0 then (if (h.2.1 (.inl 163) (Int32.toNatClampNeg a1)) ≠ (-1) then (if (f264 a1 h) ≠ 0 then (0 : Int32) else ((-12) : Int32)) else ((-11) : Int32)) else ((-1) : Int32))
theorem f270_eq (a1 : Int32) (h : mx_H) : f270 a1 h = (if (f300 a1) ≠ 0 then (if (h.2.1 (.inl 163) (Int32.toNatClampNeg a1)) ≠ (-1) then (if (f264 a1 h) ≠ 0 then (0 : Int32) else ((-12) : Int32)) else ((-11) : Int32)) else ((-1) : Int32)) := x_box_eq _
theorem x270 {E : mx_Ev} {n : Nat} {h : mx_H} {Q : Option mx_V → mx_H → Prop} {a1 : Int32} (hK : (xK_ip Q h) (f270 a1 h)) : mx_M E n 270 [.inr (.inl 105), .inl (.int a1)] h Q := by
  cases n with
  | zero => exact mx_L.zero
  | succ n => exact sl270_0 (x_use (x_eq (K := (xK_ip Q h)) (f270_eq a1 h) hK) (fun hK => (x300 (xh_i (x_ite hK (fun hK => (fun _ => (x_ite hK (fun hK => (x264 (xh_i (x_ite hK (fun hK => hK) (fun hK => hK))))) (fun hK => hK)))) (fun hK => hK))))))
noncomputable def f271 (a1 : Int32) (a2 : Int32) (h : mx_H) : Int32 := x_box (if (f300 a1) = 0 then ((-1) : Int32) else (if (f173 a2 2 60) ≠ 0 then (if 0 ≤ (f270 a1 h) then (x_val (f269 a1 a2 h) (fun x12 => (if (lg_cmp x12 1999999999) ≤ 0 then (Int64.toInt32 x12 : Int32) else (1999999999 : Int32)))) else ((f270 a1 h) : Int32)) else ((-1) : Int32)))
theorem f271_eq (a1 : Int32) (a2 : Int32) (h : mx_H) : f271 a1 a2 h = (if (f300 a1) = 0 then ((-1) : Int32) else (if (f173 a2 2 60) ≠ 0 then (if 0 ≤ (f270 a1 h) then (x_val (f269 a1 a2 h) (fun x12 => (if (lg_cmp x12 1999999999) ≤ 0 then (Int64.toInt32 x12 : Int32) else (1999999999 : Int32)))) else ((f270 a1 h) : Int32)) else ((-1) : Int32))) := x_box_eq _
theorem x271 {E : mx_Ev} {n : Nat} {h : mx_H} {Q : Option mx_V → mx_H → Prop} {a1 : Int32} {a2 : Int32} (hK : (xK_ip Q h) (f271 a1 a2 h)) : mx_M E n 271 [.inr (.inl 105), .inl (.int a1), .inl (.int a2)] h Q := by
  cases n with
  | zero => exact mx_L.zero
  | succ n => exact sl271_0 (x_use (x_eq (K := (xK_ip Q h)) (f271_eq a1 a2 h) hK) (fun hK => (x300 (xh_i (x_ite hK (fun hK => hK) (fun hK => (x173 (xh_i (x_ite hK (fun hK => (x270 (xh_i (x_ite hK (fun hK => (x269 (xh_l (x_valk hK (fun hK => (x_ite hK (fun hK => hK) (fun hK => hK))))))) (fun hK => (x270 (xh_i hK))))))) (fun hK => hK))))))))))
noncomputable def b272 : ((Int32 × Int32 × Int64 × Int32 × mx_H)) → ((Int32 × Int32 × Int64 × Int32 × mx_H)) ⊕ (Int32)
  | (a1, a2, a3, a5, h) => (if 60 < a5 then (Sum.inr (a2 : Int32)) else (x_val (f269 a1 a5 h) (fun x3 => (if 0 < (lg_cmp (x3 / (Int32.toInt64 (h.2.1 (.inl 164) (Int32.toNatClampNeg a1)))) a3) then (Sum.inl (a1, a5, (x3 / (Int32.toInt64 (h.2.1 (.inl 164) (Int32.toNatClampNeg a1)))), (a5 + 1), h)) else (Sum.inl (a1, a2, a3, (a5 + 1), h))))))
noncomputable def g272_46 (a1 : Int32) (a2 : Int32) (a3 : Int64) (a5 : Int32) (h : mx_H) : Int32 := ml_wh b272 (a1, a2, a3, a5, h)
theorem g272_46_eq (a1 : Int32) (a2 : Int32) (a3 : Int64) (a5 : Int32) (h : mx_H) : g272_46 a1 a2 a3 a5 h = (if 60 < a5 then (a2 : Int32) else (x_val (f269 a1 a5 h) (fun x3 => (if 0 < (lg_cmp (x3 / (Int32.toInt64 (h.2.1 (.inl 164) (Int32.toNatClampNeg a1)))) a3) then (g272_46 a1 a5 (x3 / (Int32.toInt64 (h.2.1 (.inl 164) (Int32.toNatClampNeg a1)))) (a5 + 1) h) else (g272_46 a1 a2 a3 (a5 + 1) h))))) := by
  unfold g272_46
  rw [ml_wh_eq]
  simp only [b272, ml_go_ite, ml_go_l, ml_go_r, ml_go_opt, ml_go_let, ml_go_h, ml_go_val]
  try rfl
noncomputable def f272 (a1 : Int32) (h : mx_H) : Int32 := x_box (if 0 ≤ (f270 a1 h) then (if (h.2.1 (.inl 164) (Int32.toNatClampNeg a1)) ≠ 0 then (g272_46 a1 2 ((f269 a1 2 h) / (Int32.toInt64 (h.2.1 (.inl 164) (Int32.toNatClampNeg a1)))) 3 h) else ((-2) : Int32)) else ((f270 a1 h) : Int32))
theorem f272_eq (a1 : Int32) (h : mx_H) : f272 a1 h = (if 0 ≤ (f270 a1 h) then (if (h.2.1 (.inl 164) (Int32.toNatClampNeg a1)) ≠ 0 then (g272_46 a1 2 ((f269 a1 2 h) / (Int32.toInt64 (h.2.1 (.inl 164) (Int32.toNatClampNeg a1)))) 3 h) else ((-2) : Int32)) else ((f270 a1 h) : Int32)) := x_box_eq _
theorem xw272 {E : mx_Ev} {Q : Option mx_V → mx_H → Prop} : ∀ n : Nat, (∀ (a1 : Int32) (a2 : Int32) (a3 : Int64) (a5 : Int32) (h : mx_H), (xK_ip Q h) (g272_46 a1 a2 a3 a5 h) → mx_L E n 272 46 [(0, .inr (.inl 105)), (1, .inl (.int a1)), (2, .inl (.int a2)), (3, .inl (.long a3)), (5, .inl (.int a5))] [] h Q)
  | 0 => fun _ _ _ _ _ _ => mx_L.zero
  | n + 1 => fun a1 a2 a3 a5 h hK => sl272_46 (x_use (x_eq (K := (xK_ip Q h)) (g272_46_eq a1 a2 a3 a5 h) hK) (fun hK => (x_ite hK (fun hK => hK) (fun hK => (x269 (xh_l (x_valk hK (fun hK => (fun _ => (fun _ => (x_ite hK (fun hK => ((xw272 n) _ _ _ _ _ hK)) (fun hK => ((xw272 n) _ _ _ _ _ hK)))))))))))))
theorem x272 {E : mx_Ev} {n : Nat} {h : mx_H} {Q : Option mx_V → mx_H → Prop} {a1 : Int32} (hK : (xK_ip Q h) (f272 a1 h)) : mx_M E n 272 [.inr (.inl 105), .inl (.int a1)] h Q := by
  cases n with
  | zero => exact mx_L.zero
  | succ n => exact sl272_0 (x_use (x_eq (K := (xK_ip Q h)) (f272_eq a1 h) hK) (fun hK => (x270 (xh_i (x_ite hK (fun hK => (fun _ => (x_ite hK (fun hK => (x269 (xh_l (fun _ => (fun _ => ((xw272 n) _ _ _ _ _ hK)))))) (fun hK => hK)))) (fun hK => (x270 (xh_i hK))))))))
noncomputable def f273 (a1 : Int32) (a2 : Int32) (h : mx_H) : Int32 × mx_H := x_box (if (f173 a1 1 9) = 0 then (((-1) : Int32), h) else (if (f173 a2 1 9) ≠ 0 then (if (h.2.1 (.inl 105) 83) ≠ 6 then (((mx_uI (mx_uI (mx_uI h (.inl 158) (Int32.toNatClampNeg (h.2.1 (.inl 105) 83)) a1) (.inl 159) (Int32.toNatClampNeg ((mx_uI h (.inl 158) (Int32.toNatClampNeg (h.2.1 (.inl 105) 83)) a1).2.1 (.inl 105) 83)) a2) (.inl 105) 83 (((mx_uI (mx_uI h (.inl 158) (Int32.toNatClampNeg (h.2.1 (.inl 105) 83)) a1) (.inl 159) (Int32.toNatClampNeg ((mx_uI h (.inl 158) (Int32.toNatClampNeg (h.2.1 (.inl 105) 83)) a1).2.1 (.inl 105) 83)) a2).2.1 (.inl 105) 83) + 1)).2.1 (.inl 105) 83 : Int32), mx_uI (mx_uI (mx_uI h (.inl 158) (Int32.toNatClampNeg (h.2.1 (.inl 105) 83)) a1) (.inl 159) (Int32.toNatClampNeg ((mx_uI h (.inl 158) (Int32.toNatClampNeg (h.2.1 (.inl 105) 83)) a1).2.1 (.inl 105) 83)) a2) (.inl 105) 83 (((mx_uI (mx_uI h (.inl 158) (Int32.toNatClampNeg (h.2.1 (.inl 105) 83)) a1) (.inl 159) (Int32.toNatClampNeg ((mx_uI h (.inl 158) (Int32.toNatClampNeg (h.2.1 (.inl 105) 83)) a1).2.1 (.inl 105) 83)) a2).2.1 (.inl 105) 83) + 1)) else (((-3) : Int32), h)) else (((-1) : Int32), h)))
theorem f273_eq (a1 : Int32) (a2 : Int32) (h : mx_H) : f273 a1 a2 h = (if (f173 a1 1 9) = 0 then (((-1) : Int32), h) else (if (f173 a2 1 9) ≠ 0 then (if (h.2.1 (.inl 105) 83) ≠ 6 then (((mx_uI (mx_uI (mx_uI h (.inl 158) (Int32.toNatClampNeg (h.2.1 (.inl 105) 83)) a1) (.inl 159) (Int32.toNatClampNeg ((mx_uI h (.inl 158) (Int32.toNatClampNeg (h.2.1 (.inl 105) 83)) a1).2.1 (.inl 105) 83)) a2) (.inl 105) 83 (((mx_uI (mx_uI h (.inl 158) (Int32.toNatClampNeg (h.2.1 (.inl 105) 83)) a1) (.inl 159) (Int32.toNatClampNeg ((mx_uI h (.inl 158) (Int32.toNatClampNeg (h.2.1 (.inl 105) 83)) a1).2.1 (.inl 105) 83)) a2).2.1 (.inl 105) 83) + 1)).2.1 (.inl 105) 83 : Int32), mx_uI (mx_uI (mx_uI h (.inl 158) (Int32.toNatClampNeg (h.2.1 (.inl 105) 83)) a1) (.inl 159) (Int32.toNatClampNeg ((mx_uI h (.inl 158) (Int32.toNatClampNeg (h.2.1 (.inl 105) 83)) a1).2.1 (.inl 105) 83)) a2) (.inl 105) 83 (((mx_uI (mx_uI h (.inl 158) (Int32.toNatClampNeg (h.2.1 (.inl 105) 83)) a1) (.inl 159) (Int32.toNatClampNeg ((mx_uI h (.inl 158) (Int32.toNatClampNeg (h.2.1 (.inl 105) 83)) a1).2.1 (.inl 105) 83)) a2).2.1 (.inl 105) 83) + 1)) else (((-3) : Int32), h)) else (((-1) : Int32), h))) := x_box_eq _
theorem x273 {E : mx_Ev} {n : Nat} {h : mx_H} {Q : Option mx_V → mx_H → Prop} {a1 : Int32} {a2 : Int32} (hK : (xK_i Q) (f273 a1 a2 h)) : mx_M E n 273 [.inr (.inl 105), .inl (.int a1), .inl (.int a2)] h Q := by
  cases n with
  | zero => exact mx_L.zero
  | succ n => exact sl273_0 (x_use (x_eq (K := (xK_i Q)) (f273_eq a1 a2 h) hK) (fun hK => (x173 (xh_i (x_ite hK (fun hK => hK) (fun hK => (x173 (xh_i (x_ite hK (fun hK => (x_ite hK (fun hK => (fun _ => (fun _ => hK))) (fun hK => hK))) (fun hK => hK))))))))))
noncomputable def f274  (h : mx_H) : Int32 × mx_H := x_box ((h.2.1 (.inl 105) 83 : Int32), mx_uI h (.inl 105) 83 0)
theorem f274_eq  (h : mx_H) : f274  h = ((h.2.1 (.inl 105) 83 : Int32), mx_uI h (.inl 105) 83 0) := x_box_eq _
theorem x274 {E : mx_Ev} {n : Nat} {h : mx_H} {Q : Option mx_V → mx_H → Prop} (hK : (xK_i Q) (f274  h)) : mx_M E n 274 [.inr (.inl 105)] h Q := by
  cases n with
  | zero => exact mx_L.zero
  | succ n => exact sl274_0 (x_use (x_eq (K := (xK_i Q)) (f274_eq  h) hK) (fun hK => hK))
noncomputable def f275 (a1 : Int32) (a2 : Int32) (a3 : Int32) (a4 : Int32) (h : mx_H) : Int32 := x_box (if a4 < (f176 (((h.2.1 (.inl 161) (Int32.toNatClampNeg a2)) * (h.2.1 (.inl 159) (Int32.toNatClampNeg a1))) - ((h.2.1 (.inl 161) (Int32.toNatClampNeg a3)) * (h.2.1 (.inl 158) (Int32.toNatClampNeg a1))))) then (0 : Int32) else (1 : Int32))
theorem f275_eq (a1 : Int32) (a2 : Int32) (a3 : Int32) (a4 : Int32) (h : mx_H) : f275 a1 a2 a3 a4 h = (if a4 < (f176 (((h.2.1 (.inl 161) (Int32.toNatClampNeg a2)) * (h.2.1 (.inl 159) (Int32.toNatClampNeg a1))) - ((h.2.1 (.inl 161) (Int32.toNatClampNeg a3)) * (h.2.1 (.inl 158) (Int32.toNatClampNeg a1))))) then (0 : Int32) else (1 : Int32)) := x_box_eq _
theorem x275 {E : mx_Ev} {n : Nat} {h : mx_H} {Q : Option mx_V → mx_H → Prop} {a1 : Int32} {a2 : Int32} {a3 : Int32} {a4 : Int32} (hK : (xK_ip Q h) (f275 a1 a2 a3 a4 h)) : mx_M E n 275 [.inr (.inl 105), .inl (.int a1), .inl (.int a2), .inl (.int a3), .inl (.int a4)] h Q := by
  cases n with
  | zero => exact mx_L.zero
  | succ n => exact sl275_0 (x_use (x_eq (K := (xK_ip Q h)) (f275_eq a1 a2 a3 a4 h) hK) (fun hK => (fun _ => (fun _ => (fun _ => (fun _ => (x176 (xh_i (x_ite hK (fun hK => (fun _ => hK)) (fun hK => (fun _ => hK)))))))))))
noncomputable def b276 : ((Int32 × Int32 × Int32 × Int32 × Int32 × Int32 × mx_H)) → ((Int32 × Int32 × Int32 × Int32 × Int32 × Int32 × mx_H)) ⊕ (Int32)
  | (a1, a2, a3, a4, a5, a6, h) => (if a2 ≤ a6 then (Sum.inr (1 : Int32)) else (if ((a1 >>> (a6 &&& 31)) &&& 1) ≠ 0 then (if a5 < 0 then (Sum.inl (a1, a2, a3, a4, a6, (a6 + 1), h)) else (if (f275 a4 a5 a6 a3 h) ≠ 0 then (Sum.inl (a1, a2, a3, (a4 + 1), a6, (a6 + 1), h)) else (Sum.inr (0 : Int32)))) else (Sum.inl (a1, a2, a3, a4, a5, (a6 + 1), h))))
noncomputable def g276_9 (a1 : Int32) (a2 : Int32) (a3 : Int32) (a4 : Int32) (a5 : Int32) (a6 : Int32) (h : mx_H) : Int32 := ml_wh b276 (a1, a2, a3, a4, a5, a6, h)
theorem g276_9_eq (a1 : Int32) (a2 : Int32) (a3 : Int32) (a4 : Int32) (a5 : Int32) (a6 : Int32) (h : mx_H) : g276_9 a1 a2 a3 a4 a5 a6 h = (if a2 ≤ a6 then (1 : Int32) else (if ((a1 >>> (a6 &&& 31)) &&& 1) ≠ 0 then (if a5 < 0 then (g276_9 a1 a2 a3 a4 a6 (a6 + 1) h) else (if (f275 a4 a5 a6 a3 h) ≠ 0 then (g276_9 a1 a2 a3 (a4 + 1) a6 (a6 + 1) h) else (0 : Int32))) else (g276_9 a1 a2 a3 a4 a5 (a6 + 1) h))) := by
  unfold g276_9
  rw [ml_wh_eq]
  simp only [b276, ml_go_ite, ml_go_l, ml_go_r, ml_go_opt, ml_go_let, ml_go_h, ml_go_val]
  try rfl
noncomputable def f276 (a1 : Int32) (a2 : Int32) (a3 : Int32) (h : mx_H) : Int32 := x_box (g276_9 a1 a2 a3 0 (-1) 0 h)
theorem f276_eq (a1 : Int32) (a2 : Int32) (a3 : Int32) (h : mx_H) : f276 a1 a2 a3 h = (g276_9 a1 a2 a3 0 (-1) 0 h) := x_box_eq _
theorem xw276 {E : mx_Ev} {Q : Option mx_V → mx_H → Prop} : ∀ n : Nat, (∀ (a1 : Int32) (a2 : Int32) (a3 : Int32) (a4 : Int32) (a5 : Int32) (a6 : Int32) (h : mx_H), (xK_ip Q h) (g276_9 a1 a2 a3 a4 a5 a6 h) → mx_L E n 276 9 [(0, .inr (.inl 105)), (1, .inl (.int a1)), (2, .inl (.int a2)), (3, .inl (.int a3)), (4, .inl (.int a4)), (5, .inl (.int a5)), (6, .inl (.int a6))] [] h Q)
  | 0 => fun _ _ _ _ _ _ _ _ => mx_L.zero
  | n + 1 => fun a1 a2 a3 a4 a5 a6 h hK => sl276_9 (x_use (x_eq (K := (xK_ip Q h)) (g276_9_eq a1 a2 a3 a4 a5 a6 h) hK) (fun hK => (x_ite hK (fun hK => (fun _ => hK)) (fun hK => (x_ite hK (fun hK => (x_ite hK (fun hK => ((xw276 n) _ _ _ _ _ _ _ hK)) (fun hK => (x275 (xh_i (x_ite hK (fun hK => ((xw276 n) _ _ _ _ _ _ _ hK)) (fun hK => (fun _ => hK)))))))) (fun hK => ((xw276 n) _ _ _ _ _ _ _ hK)))))))
theorem x276 {E : mx_Ev} {n : Nat} {h : mx_H} {Q : Option mx_V → mx_H → Prop} {a1 : Int32} {a2 : Int32} {a3 : Int32} (hK : (xK_ip Q h) (f276 a1 a2 a3 h)) : mx_M E n 276 [.inr (.inl 105), .inl (.int a1), .inl (.int a2), .inl (.int a3)] h Q := by
  cases n with
  | zero => exact mx_L.zero
  | succ n => exact sl276_0 (x_use (x_eq (K := (xK_ip Q h)) (f276_eq a1 a2 a3 h) hK) (fun hK => ((xw276 n) _ _ _ _ _ _ _ hK)))
noncomputable def b278 : ((Int32 × Int32 × Int32 × Int32 × Int32 × mx_H)) → ((Int32 × Int32 × Int32 × Int32 × Int32 × mx_H)) ⊕ (mx_H)
  | (a1, a2, a3, a4, a5, h) => (if a4 ≤ a5 then (Sum.inr h) else (if ((h.2.1 (.inl 117) (Int32.toNatClampNeg a5)) - 1) < 0 then (Sum.inl (a1, a2, a3, a4, (a5 + 1), h)) else (if (((h.2.1 (.inl 117) (Int32.toNatClampNeg a5)) - 1) / 36) = a1 then (x_h (f181 a2 (((((h.2.1 (.inl 117) (Int32.toNatClampNeg a5)) - 1) / 6) - (((h.2.1 (.inl 117) (Int32.toNatClampNeg a5)) - 1) / 6) / 6 * 6) + a3) ((((h.2.1 (.inl 117) (Int32.toNatClampNeg a5)) - 1) - ((h.2.1 (.inl 117) (Int32.toNatClampNeg a5)) - 1) / 6 * 6) + a3) (h.2.1 (.inl 105) 12) (h.2.1 (.inl 111) (Int32.toNatClampNeg ((h.2.1 (.inl 117) (Int32.toNatClampNeg a5)) - 1))) (h.2.1 (.inl 112) (Int32.toNatClampNeg ((h.2.1 (.inl 117) (Int32.toNatClampNeg a5)) - 1))) h) (fun h2 => (x_h (f193 a2 (((((h.2.1 (.inl 117) (Int32.toNatClampNeg a5)) - 1) / 6) - (((h.2.1 (.inl 117) (Int32.toNatClampNeg a5)) - 1) / 6) / 6 * 6) + a3) ((((h.2.1 (.inl 117) (Int32.toNatClampNeg a5)) - 1) - ((h.2.1 (.inl 117) (Int32.toNatClampNeg a5)) - 1) / 6 * 6) + a3) h2) (fun h4 => (Sum.inl (a1, a2, a3, a4, (a5 + 1), h4)))))) else (Sum.inl (a1, a2, a3, a4, (a5 + 1), h)))))
noncomputable def g278_9 (a1 : Int32) (a2 : Int32) (a3 : Int32) (a4 : Int32) (a5 : Int32) (h : mx_H) : mx_H := ml_wh b278 (a1, a2, a3, a4, a5, h)
theorem g278_9_eq (a1 : Int32) (a2 : Int32) (a3 : Int32) (a4 : Int32) (a5 : Int32) (h : mx_H) : g278_9 a1 a2 a3 a4 a5 h = (if a4 ≤ a5 then h else (if ((h.2.1 (.inl 117) (Int32.toNatClampNeg a5)) - 1) < 0 then (g278_9 a1 a2 a3 a4 (a5 + 1) h) else (if (((h.2.1 (.inl 117) (Int32.toNatClampNeg a5)) - 1) / 36) = a1 then (x_h (f181 a2 (((((h.2.1 (.inl 117) (Int32.toNatClampNeg a5)) - 1) / 6) - (((h.2.1 (.inl 117) (Int32.toNatClampNeg a5)) - 1) / 6) / 6 * 6) + a3) ((((h.2.1 (.inl 117) (Int32.toNatClampNeg a5)) - 1) - ((h.2.1 (.inl 117) (Int32.toNatClampNeg a5)) - 1) / 6 * 6) + a3) (h.2.1 (.inl 105) 12) (h.2.1 (.inl 111) (Int32.toNatClampNeg ((h.2.1 (.inl 117) (Int32.toNatClampNeg a5)) - 1))) (h.2.1 (.inl 112) (Int32.toNatClampNeg ((h.2.1 (.inl 117) (Int32.toNatClampNeg a5)) - 1))) h) (fun h2 => (x_h (f193 a2 (((((h.2.1 (.inl 117) (Int32.toNatClampNeg a5)) - 1) / 6) - (((h.2.1 (.inl 117) (Int32.toNatClampNeg a5)) - 1) / 6) / 6 * 6) + a3) ((((h.2.1 (.inl 117) (Int32.toNatClampNeg a5)) - 1) - ((h.2.1 (.inl 117) (Int32.toNatClampNeg a5)) - 1) / 6 * 6) + a3) h2) (fun h4 => (g278_9 a1 a2 a3 a4 (a5 + 1) h4))))) else (g278_9 a1 a2 a3 a4 (a5 + 1) h)))) := by
  unfold g278_9
  rw [ml_wh_eq]
  simp only [b278, ml_go_ite, ml_go_l, ml_go_r, ml_go_opt, ml_go_let, ml_go_h, ml_go_val]
  try rfl
noncomputable def f278 (a1 : Int32) (a2 : Int32) (a3 : Int32) (h : mx_H) : mx_H := x_box (g278_9 a1 a2 a3 (h.2.1 (.inl 105) 12) 0 h)
theorem f278_eq (a1 : Int32) (a2 : Int32) (a3 : Int32) (h : mx_H) : f278 a1 a2 a3 h = (g278_9 a1 a2 a3 (h.2.1 (.inl 105) 12) 0 h) := x_box_eq _
theorem xw278 {E : mx_Ev} {Q : Option mx_V → mx_H → Prop} : ∀ n : Nat, (∀ (a1 : Int32) (a2 : Int32) (a3 : Int32) (a4 : Int32) (a5 : Int32) (h : mx_H), (xK_v Q) (g278_9 a1 a2 a3 a4 a5 h) → mx_L E n 278 9 [(0, .inr (.inl 105)), (1, .inl (.int a1)), (2, .inl (.int a2)), (3, .inl (.int a3)), (4, .inl (.int a4)), (5, .inl (.int a5))] [] h Q)
  | 0 => fun _ _ _ _ _ _ _ => mx_L.zero
  | n + 1 => fun a1 a2 a3 a4 a5 h hK => sl278_9 (x_use (x_eq (K := (xK_v Q)) (g278_9_eq a1 a2 a3 a4 a5 h) hK) (fun hK => (x_ite hK (fun hK => hK) (fun hK => (fun _ => (x_ite hK (fun hK => ((xw278 n) _ _ _ _ _ _ hK)) (fun hK => (fun _ => (x_ite hK (fun hK => (fun _ => (fun _ => (fun _ => (fun _ => (fun _ => (x181 (xh_n (x_hk hK (fun hK => (x193 (xh_n (x_hk hK (fun hK => ((xw278 n) _ _ _ _ _ _ hK))))))))))))))) (fun hK => ((xw278 n) _ _ _ _ _ _ hK)))))))))))
theorem x278 {E : mx_Ev} {n : Nat} {h : mx_H} {Q : Option mx_V → mx_H → Prop} {a1 : Int32} {a2 : Int32} {a3 : Int32} (hK : (xK_v Q) (f278 a1 a2 a3 h)) : mx_M E n 278 [.inr (.inl 105), .inl (.int a1), .inl (.int a2), .inl (.int a3)] h Q := by
  cases n with
  | zero => exact mx_L.zero
  | succ n => exact sl278_0 (x_use (x_eq (K := (xK_v Q)) (f278_eq a1 a2 a3 h) hK) (fun hK => ((xw278 n) _ _ _ _ _ _ hK)))
noncomputable def b279 : ((Int32 × Int32 × Int32 × Int32 × mx_H)) → ((Int32 × Int32 × Int32 × Int32 × mx_H)) ⊕ (mx_H)
  | (a1, a2, a3, a4, h) => (if (h.2.1 (.inl 106) (Int32.toNatClampNeg a1)) ≤ a4 then (Sum.inr h) else (Sum.inl (a1, a2, a3, (a4 + 1), mx_uI (mx_uI (mx_uI (mx_uI h (.inl 107) (Int32.toNatClampNeg (((6 * a2) + a3) + a4)) (h.2.1 (.inl 107) (Int32.toNatClampNeg ((6 * a1) + a4)))) (.inl 108) (Int32.toNatClampNeg (((6 * a2) + a3) + a4)) ((mx_uI h (.inl 107) (Int32.toNatClampNeg (((6 * a2) + a3) + a4)) (h.2.1 (.inl 107) (Int32.toNatClampNeg ((6 * a1) + a4)))).2.1 (.inl 108) (Int32.toNatClampNeg ((6 * a1) + a4)))) (.inl 109) (Int32.toNatClampNeg (((6 * a2) + a3) + a4)) ((mx_uI (mx_uI h (.inl 107) (Int32.toNatClampNeg (((6 * a2) + a3) + a4)) (h.2.1 (.inl 107) (Int32.toNatClampNeg ((6 * a1) + a4)))) (.inl 108) (Int32.toNatClampNeg (((6 * a2) + a3) + a4)) ((mx_uI h (.inl 107) (Int32.toNatClampNeg (((6 * a2) + a3) + a4)) (h.2.1 (.inl 107) (Int32.toNatClampNeg ((6 * a1) + a4)))).2.1 (.inl 108) (Int32.toNatClampNeg ((6 * a1) + a4)))).2.1 (.inl 109) (Int32.toNatClampNeg ((6 * a1) + a4)))) (.inl 110) (Int32.toNatClampNeg (((6 * a2) + a3) + a4)) (vp_nar .boolean ((mx_uI (mx_uI (mx_uI h (.inl 107) (Int32.toNatClampNeg (((6 * a2) + a3) + a4)) (h.2.1 (.inl 107) (Int32.toNatClampNeg ((6 * a1) + a4)))) (.inl 108) (Int32.toNatClampNeg (((6 * a2) + a3) + a4)) ((mx_uI h (.inl 107) (Int32.toNatClampNeg (((6 * a2) + a3) + a4)) (h.2.1 (.inl 107) (Int32.toNatClampNeg ((6 * a1) + a4)))).2.1 (.inl 108) (Int32.toNatClampNeg ((6 * a1) + a4)))) (.inl 109) (Int32.toNatClampNeg (((6 * a2) + a3) + a4)) ((mx_uI (mx_uI h (.inl 107) (Int32.toNatClampNeg (((6 * a2) + a3) + a4)) (h.2.1 (.inl 107) (Int32.toNatClampNeg ((6 * a1) + a4)))) (.inl 108) (Int32.toNatClampNeg (((6 * a2) + a3) + a4)) ((mx_uI h (.inl 107) (Int32.toNatClampNeg (((6 * a2) + a3) + a4)) (h.2.1 (.inl 107) (Int32.toNatClampNeg ((6 * a1) + a4)))).2.1 (.inl 108) (Int32.toNatClampNeg ((6 * a1) + a4)))).2.1 (.inl 109) (Int32.toNatClampNeg ((6 * a1) + a4)))).2.1 (.inl 110) (Int32.toNatClampNeg ((6 * a1) + a4)))))))
noncomputable def g279_3 (a1 : Int32) (a2 : Int32) (a3 : Int32) (a4 : Int32) (h : mx_H) : mx_H := ml_wh b279 (a1, a2, a3, a4, h)
theorem g279_3_eq (a1 : Int32) (a2 : Int32) (a3 : Int32) (a4 : Int32) (h : mx_H) : g279_3 a1 a2 a3 a4 h = (if (h.2.1 (.inl 106) (Int32.toNatClampNeg a1)) ≤ a4 then h else (g279_3 a1 a2 a3 (a4 + 1) (mx_uI (mx_uI (mx_uI (mx_uI h (.inl 107) (Int32.toNatClampNeg (((6 * a2) + a3) + a4)) (h.2.1 (.inl 107) (Int32.toNatClampNeg ((6 * a1) + a4)))) (.inl 108) (Int32.toNatClampNeg (((6 * a2) + a3) + a4)) ((mx_uI h (.inl 107) (Int32.toNatClampNeg (((6 * a2) + a3) + a4)) (h.2.1 (.inl 107) (Int32.toNatClampNeg ((6 * a1) + a4)))).2.1 (.inl 108) (Int32.toNatClampNeg ((6 * a1) + a4)))) (.inl 109) (Int32.toNatClampNeg (((6 * a2) + a3) + a4)) ((mx_uI (mx_uI h (.inl 107) (Int32.toNatClampNeg (((6 * a2) + a3) + a4)) (h.2.1 (.inl 107) (Int32.toNatClampNeg ((6 * a1) + a4)))) (.inl 108) (Int32.toNatClampNeg (((6 * a2) + a3) + a4)) ((mx_uI h (.inl 107) (Int32.toNatClampNeg (((6 * a2) + a3) + a4)) (h.2.1 (.inl 107) (Int32.toNatClampNeg ((6 * a1) + a4)))).2.1 (.inl 108) (Int32.toNatClampNeg ((6 * a1) + a4)))).2.1 (.inl 109) (Int32.toNatClampNeg ((6 * a1) + a4)))) (.inl 110) (Int32.toNatClampNeg (((6 * a2) + a3) + a4)) (vp_nar .boolean ((mx_uI (mx_uI (mx_uI h (.inl 107) (Int32.toNatClampNeg (((6 * a2) + a3) + a4)) (h.2.1 (.inl 107) (Int32.toNatClampNeg ((6 * a1) + a4)))) (.inl 108) (Int32.toNatClampNeg (((6 * a2) + a3) + a4)) ((mx_uI h (.inl 107) (Int32.toNatClampNeg (((6 * a2) + a3) + a4)) (h.2.1 (.inl 107) (Int32.toNatClampNeg ((6 * a1) + a4)))).2.1 (.inl 108) (Int32.toNatClampNeg ((6 * a1) + a4)))) (.inl 109) (Int32.toNatClampNeg (((6 * a2) + a3) + a4)) ((mx_uI (mx_uI h (.inl 107) (Int32.toNatClampNeg (((6 * a2) + a3) + a4)) (h.2.1 (.inl 107) (Int32.toNatClampNeg ((6 * a1) + a4)))) (.inl 108) (Int32.toNatClampNeg (((6 * a2) + a3) + a4)) ((mx_uI h (.inl 107) (Int32.toNatClampNeg (((6 * a2) + a3) + a4)) (h.2.1 (.inl 107) (Int32.toNatClampNeg ((6 * a1) + a4)))).2.1 (.inl 108) (Int32.toNatClampNeg ((6 * a1) + a4)))).2.1 (.inl 109) (Int32.toNatClampNeg ((6 * a1) + a4)))).2.1 (.inl 110) (Int32.toNatClampNeg ((6 * a1) + a4))))))) := by
  unfold g279_3
  rw [ml_wh_eq]
  simp only [b279, ml_go_ite, ml_go_l, ml_go_r, ml_go_opt, ml_go_let, ml_go_h, ml_go_val]
  try rfl
noncomputable def f279 (a1 : Int32) (a2 : Int32) (a3 : Int32) (h : mx_H) : mx_H := x_box (g279_3 a1 a2 a3 0 h)
theorem f279_eq (a1 : Int32) (a2 : Int32) (a3 : Int32) (h : mx_H) : f279 a1 a2 a3 h = (g279_3 a1 a2 a3 0 h) := x_box_eq _
theorem xw279 {E : mx_Ev} {Q : Option mx_V → mx_H → Prop} : ∀ n : Nat, (∀ (a1 : Int32) (a2 : Int32) (a3 : Int32) (a4 : Int32) (h : mx_H), (xK_v Q) (g279_3 a1 a2 a3 a4 h) → mx_L E n 279 3 [(0, .inr (.inl 105)), (1, .inl (.int a1)), (2, .inl (.int a2)), (3, .inl (.int a3)), (4, .inl (.int a4))] [] h Q)
  | 0 => fun _ _ _ _ _ _ => mx_L.zero
  | n + 1 => fun a1 a2 a3 a4 h hK => sl279_3 (x_use (x_eq (K := (xK_v Q)) (g279_3_eq a1 a2 a3 a4 h) hK) (fun hK => (fun _ => (x_ite hK (fun hK => hK) (fun hK => (fun _ => (fun _ => (fun _ => (fun _ => (fun _ => (fun _ => (fun _ => (fun _ => ((xw279 n) _ _ _ _ _ hK))))))))))))))
theorem x279 {E : mx_Ev} {n : Nat} {h : mx_H} {Q : Option mx_V → mx_H → Prop} {a1 : Int32} {a2 : Int32} {a3 : Int32} (hK : (xK_v Q) (f279 a1 a2 a3 h)) : mx_M E n 279 [.inr (.inl 105), .inl (.int a1), .inl (.int a2), .inl (.int a3)] h Q := by
  cases n with
  | zero => exact mx_L.zero
  | succ n => exact sl279_0 (x_use (x_eq (K := (xK_v Q)) (f279_eq a1 a2 a3 h) hK) (fun hK => ((xw279 n) _ _ _ _ _ hK)))
noncomputable def f280 (a1 : Int32) (a2 : Int32) (a3 : Int32) (a4 : Int32) (h : mx_H) : Int32 × mx_H := x_box (if (f177 a1 h) = 0 then (((-1) : Int32), h) else (if (f177 a2 h) = 0 then (((-1) : Int32), h) else (if a3 < 0 then (((-1) : Int32), h) else (if (f178 a1 (a3 / 10) h) = 0 then (((-1) : Int32), h) else (if (f178 a2 (a3 - a3 / 10 * 10) h) = 0 then (((-1) : Int32), h) else (if (f173 a4 1 9) = 0 then (((-1) : Int32), h) else (if ((h.2.1 (.inl 106) (Int32.toNatClampNeg a1)) + (h.2.1 (.inl 106) (Int32.toNatClampNeg a2))) ≤ 6 then (if (h.2.1 (.inl 105) 1) = 12 then (((-3) : Int32), h) else (if ((((h.2.1 (.inl 105) 12) + (f183 a1 h)) + (f183 a2 h)) + 1) ≤ 200 then (x_h (f182 (h.2.1 (.inl 105) 1) h) (fun h23 => (x_h (f279 a1 (h.2.1 (.inl 105) 1) 0 (mx_uI h23 (.inl 106) (Int32.toNatClampNeg (h.2.1 (.inl 105) 1)) ((h23.2.1 (.inl 106) (Int32.toNatClampNeg a1)) + (h23.2.1 (.inl 106) (Int32.toNatClampNeg a2))))) (fun h25 => (x_h (f279 a2 (h.2.1 (.inl 105) 1) (h25.2.1 (.inl 106) (Int32.toNatClampNeg a1)) h25) (fun h27 => (x_h (f278 a1 (h.2.1 (.inl 105) 1) 0 h27) (fun h29 => (x_h (f278 a2 (h.2.1 (.inl 105) 1) (h29.2.1 (.inl 106) (Int32.toNatClampNeg a1)) h29) (fun h31 => (x_h (f181 (h.2.1 (.inl 105) 1) (a3 / 10) ((h31.2.1 (.inl 106) (Int32.toNatClampNeg a1)) + (a3 - a3 / 10 * 10)) (h31.2.1 (.inl 105) 12) a4 0 h31) (fun h33 => (x_h (f193 (h.2.1 (.inl 105) 1) (a3 / 10) ((h33.2.1 (.inl 106) (Int32.toNatClampNeg a1)) + (a3 - a3 / 10 * 10)) h33) (fun h35 => ((h.2.1 (.inl 105) 1 : Int32), mx_uI (mx_uI (mx_uI h35 (.inl 114) (Int32.toNatClampNeg (h.2.1 (.inl 105) 1)) a1) (.inl 115) (Int32.toNatClampNeg (h.2.1 (.inl 105) 1)) a2) (.inl 105) 1 (((mx_uI (mx_uI h35 (.inl 114) (Int32.toNatClampNeg (h.2.1 (.inl 105) 1)) a1) (.inl 115) (Int32.toNatClampNeg (h.2.1 (.inl 105) 1)) a2).2.1 (.inl 105) 1) + 1)))))))))))))))) else (((-3) : Int32), h))) else (((-1) : Int32), h))))))))
theorem f280_eq (a1 : Int32) (a2 : Int32) (a3 : Int32) (a4 : Int32) (h : mx_H) : f280 a1 a2 a3 a4 h = (if (f177 a1 h) = 0 then (((-1) : Int32), h) else (if (f177 a2 h) = 0 then (((-1) : Int32), h) else (if a3 < 0 then (((-1) : Int32), h) else (if (f178 a1 (a3 / 10) h) = 0 then (((-1) : Int32), h) else (if (f178 a2 (a3 - a3 / 10 * 10) h) = 0 then (((-1) : Int32), h) else (if (f173 a4 1 9) = 0 then (((-1) : Int32), h) else (if ((h.2.1 (.inl 106) (Int32.toNatClampNeg a1)) + (h.2.1 (.inl 106) (Int32.toNatClampNeg a2))) ≤ 6 then (if (h.2.1 (.inl 105) 1) = 12 then (((-3) : Int32), h) else (if ((((h.2.1 (.inl 105) 12) + (f183 a1 h)) + (f183 a2 h)) + 1) ≤ 200 then (x_h (f182 (h.2.1 (.inl 105) 1) h) (fun h23 => (x_h (f279 a1 (h.2.1 (.inl 105) 1) 0 (mx_uI h23 (.inl 106) (Int32.toNatClampNeg (h.2.1 (.inl 105) 1)) ((h23.2.1 (.inl 106) (Int32.toNatClampNeg a1)) + (h23.2.1 (.inl 106) (Int32.toNatClampNeg a2))))) (fun h25 => (x_h (f279 a2 (h.2.1 (.inl 105) 1) (h25.2.1 (.inl 106) (Int32.toNatClampNeg a1)) h25) (fun h27 => (x_h (f278 a1 (h.2.1 (.inl 105) 1) 0 h27) (fun h29 => (x_h (f278 a2 (h.2.1 (.inl 105) 1) (h29.2.1 (.inl 106) (Int32.toNatClampNeg a1)) h29) (fun h31 => (x_h (f181 (h.2.1 (.inl 105) 1) (a3 / 10) ((h31.2.1 (.inl 106) (Int32.toNatClampNeg a1)) + (a3 - a3 / 10 * 10)) (h31.2.1 (.inl 105) 12) a4 0 h31) (fun h33 => (x_h (f193 (h.2.1 (.inl 105) 1) (a3 / 10) ((h33.2.1 (.inl 106) (Int32.toNatClampNeg a1)) + (a3 - a3 / 10 * 10)) h33) (fun h35 => ((h.2.1 (.inl 105) 1 : Int32), mx_uI (mx_uI (mx_uI h35 (.inl 114) (Int32.toNatClampNeg (h.2.1 (.inl 105) 1)) a1) (.inl 115) (Int32.toNatClampNeg (h.2.1 (.inl 105) 1)) a2) (.inl 105) 1 (((mx_uI (mx_uI h35 (.inl 114) (Int32.toNatClampNeg (h.2.1 (.inl 105) 1)) a1) (.inl 115) (Int32.toNatClampNeg (h.2.1 (.inl 105) 1)) a2).2.1 (.inl 105) 1) + 1)))))))))))))))) else (((-3) : Int32), h))) else (((-1) : Int32), h)))))))) := x_box_eq _
theorem x280 {E : mx_Ev} {n : Nat} {h : mx_H} {Q : Option mx_V → mx_H → Prop} {a1 : Int32} {a2 : Int32} {a3 : Int32} {a4 : Int32} (hK : (xK_i Q) (f280 a1 a2 a3 a4 h)) : mx_M E n 280 [.inr (.inl 105), .inl (.int a1), .inl (.int a2), .inl (.int a3), .inl (.int a4)] h Q := by
  cases n with
  | zero => exact mx_L.zero
  | succ n => exact sl280_0 (x_use (x_eq (K := (xK_i Q)) (f280_eq a1 a2 a3 a4 h) hK) (fun hK => (x177 (xh_i (x_ite hK (fun hK => hK) (fun hK => (x177 (xh_i (x_ite hK (fun hK => hK) (fun hK => (x_ite hK (fun hK => hK) (fun hK => (fun _ => (x178 (xh_i (x_ite hK (fun hK => hK) (fun hK => (fun _ => (x178 (xh_i (x_ite hK (fun hK => hK) (fun hK => (x173 (xh_i (x_ite hK (fun hK => hK) (fun hK => (fun _ => (fun _ => (x_ite hK (fun hK => (x_ite hK (fun hK => hK) (fun hK => (x183 (xh_i (x183 (xh_i (x_ite hK (fun hK => (x182 (xh_n (x_hk hK (fun hK => (fun _ => (fun _ => (fun _ => (x279 (xh_n (x_hk hK (fun hK => (fun _ => (x279 (xh_n (x_hk hK (fun hK => (x278 (xh_n (x_hk hK (fun hK => (fun _ => (x278 (xh_n (x_hk hK (fun hK => (fun _ => (fun _ => (fun _ => (x181 (xh_n (x_hk hK (fun hK => (fun _ => (fun _ => (fun _ => (x193 (xh_n (x_hk hK (fun hK => (fun _ => (fun _ => hK)))))))))))))))))))))))))))))))))))))))))) (fun hK => hK))))))))) (fun hK => hK))))))))))))))))))))))))))))))
noncomputable def f283 (a1 : Int32) (h : mx_H) : Int32 := x_box ((f173 a1 0 ((h.2.1 (.inl 105) 12) - 1)) : Int32)
theorem f283_eq (a1 : Int32) (h : mx_H) : f283 a1 h = ((f173 a1 0 ((h.2.1 (.inl 105) 12) - 1)) : Int32) := x_box_eq _
theorem x283 {E : mx_Ev} {n : Nat} {h : mx_H} {Q : Option mx_V → mx_H → Prop} {a1 : Int32} (hK : (xK_ip Q h) (f283 a1 h)) : mx_M E n 283 [.inr (.inl 105), .inl (.int a1)] h Q := by
  cases n with
  | zero => exact mx_L.zero
  | succ n => exact sl283_0 (x_use (x_eq (K := (xK_ip Q h)) (f283_eq a1 h) hK) (fun hK => (x173 (xh_i (fun _ => hK)))))
noncomputable def f284 (a0 : Int32) (a1 : Int32) : Int32 := x_box (if a1 = 0 then (1 : Int32) else (if a0 ≠ a1 then (if a1 ≠ 1 then (if a1 ≠ 4 then (0 : Int32) else (if a0 ≠ 5 then (0 : Int32) else (1 : Int32))) else (if a0 = 2 then (1 : Int32) else (if a0 = 4 then (1 : Int32) else (if a0 = 5 then (1 : Int32) else (if a1 ≠ 4 then (0 : Int32) else (if a0 ≠ 5 then (0 : Int32) else (1 : Int32))))))) else (1 : Int32)))
theorem f284_eq (a0 : Int32) (a1 : Int32) : f284 a0 a1 = (if a1 = 0 then (1 : Int32) else (if a0 ≠ a1 then (if a1 ≠ 1 then (if a1 ≠ 4 then (0 : Int32) else (if a0 ≠ 5 then (0 : Int32) else (1 : Int32))) else (if a0 = 2 then (1 : Int32) else (if a0 = 4 then (1 : Int32) else (if a0 = 5 then (1 : Int32) else (if a1 ≠ 4 then (0 : Int32) else (if a0 ≠ 5 then (0 : Int32) else (1 : Int32))))))) else (1 : Int32))) := x_box_eq _
theorem x284 {E : mx_Ev} {n : Nat} {h : mx_H} {Q : Option mx_V → mx_H → Prop} {a0 : Int32} {a1 : Int32} (hK : (xK_ip Q h) (f284 a0 a1)) : mx_M E n 284 [.inl (.int a0), .inl (.int a1)] h Q := by
  cases n with
  | zero => exact mx_L.zero
  | succ n => exact sl284_0 (x_use (x_eq (K := (xK_ip Q h)) (f284_eq a0 a1) hK) (fun hK => (x_ite hK (fun hK => (fun _ => hK)) (fun hK => (x_ite hK (fun hK => (x_ite hK (fun hK => (x_ite hK (fun hK => (fun _ => hK)) (fun hK => (x_ite hK (fun hK => (fun _ => hK)) (fun hK => (fun _ => hK)))))) (fun hK => (x_ite hK (fun hK => (fun _ => hK)) (fun hK => (x_ite hK (fun hK => (fun _ => hK)) (fun hK => (x_ite hK (fun hK => (fun _ => hK)) (fun hK => (x_ite hK (fun hK => (fun _ => hK)) (fun hK => (x_ite hK (fun hK => (fun _ => hK)) (fun hK => (fun _ => hK)))))))))))))) (fun hK => (fun _ => hK)))))))
noncomputable def f285 (a1 : Int32) (h : mx_H) : Int32 × mx_H := x_box (if (f173 a1 0 5) ≠ 0 then (if (h.2.1 (.inl 105) 12) ≠ 200 then ((((mx_uI (mx_uI (mx_uI h (.inl 116) (Int32.toNatClampNeg (h.2.1 (.inl 105) 12)) a1) (.inl 117) (Int32.toNatClampNeg ((mx_uI h (.inl 116) (Int32.toNatClampNeg (h.2.1 (.inl 105) 12)) a1).2.1 (.inl 105) 12)) 0) (.inl 105) 12 (((mx_uI (mx_uI h (.inl 116) (Int32.toNatClampNeg (h.2.1 (.inl 105) 12)) a1) (.inl 117) (Int32.toNatClampNeg ((mx_uI h (.inl 116) (Int32.toNatClampNeg (h.2.1 (.inl 105) 12)) a1).2.1 (.inl 105) 12)) 0).2.1 (.inl 105) 12) + 1)).2.1 (.inl 105) 12) - 1 : Int32), mx_uI (mx_uI (mx_uI h (.inl 116) (Int32.toNatClampNeg (h.2.1 (.inl 105) 12)) a1) (.inl 117) (Int32.toNatClampNeg ((mx_uI h (.inl 116) (Int32.toNatClampNeg (h.2.1 (.inl 105) 12)) a1).2.1 (.inl 105) 12)) 0) (.inl 105) 12 (((mx_uI (mx_uI h (.inl 116) (Int32.toNatClampNeg (h.2.1 (.inl 105) 12)) a1) (.inl 117) (Int32.toNatClampNeg ((mx_uI h (.inl 116) (Int32.toNatClampNeg (h.2.1 (.inl 105) 12)) a1).2.1 (.inl 105) 12)) 0).2.1 (.inl 105) 12) + 1)) else (((-3) : Int32), h)) else (((-1) : Int32), h))
theorem f285_eq (a1 : Int32) (h : mx_H) : f285 a1 h = (if (f173 a1 0 5) ≠ 0 then (if (h.2.1 (.inl 105) 12) ≠ 200 then ((((mx_uI (mx_uI (mx_uI h (.inl 116) (Int32.toNatClampNeg (h.2.1 (.inl 105) 12)) a1) (.inl 117) (Int32.toNatClampNeg ((mx_uI h (.inl 116) (Int32.toNatClampNeg (h.2.1 (.inl 105) 12)) a1).2.1 (.inl 105) 12)) 0) (.inl 105) 12 (((mx_uI (mx_uI h (.inl 116) (Int32.toNatClampNeg (h.2.1 (.inl 105) 12)) a1) (.inl 117) (Int32.toNatClampNeg ((mx_uI h (.inl 116) (Int32.toNatClampNeg (h.2.1 (.inl 105) 12)) a1).2.1 (.inl 105) 12)) 0).2.1 (.inl 105) 12) + 1)).2.1 (.inl 105) 12) - 1 : Int32), mx_uI (mx_uI (mx_uI h (.inl 116) (Int32.toNatClampNeg (h.2.1 (.inl 105) 12)) a1) (.inl 117) (Int32.toNatClampNeg ((mx_uI h (.inl 116) (Int32.toNatClampNeg (h.2.1 (.inl 105) 12)) a1).2.1 (.inl 105) 12)) 0) (.inl 105) 12 (((mx_uI (mx_uI h (.inl 116) (Int32.toNatClampNeg (h.2.1 (.inl 105) 12)) a1) (.inl 117) (Int32.toNatClampNeg ((mx_uI h (.inl 116) (Int32.toNatClampNeg (h.2.1 (.inl 105) 12)) a1).2.1 (.inl 105) 12)) 0).2.1 (.inl 105) 12) + 1)) else (((-3) : Int32), h)) else (((-1) : Int32), h)) := x_box_eq _
theorem x285 {E : mx_Ev} {n : Nat} {h : mx_H} {Q : Option mx_V → mx_H → Prop} {a1 : Int32} (hK : (xK_i Q) (f285 a1 h)) : mx_M E n 285 [.inr (.inl 105), .inl (.int a1)] h Q := by
  cases n with
  | zero => exact mx_L.zero
  | succ n => exact sl285_0 (x_use (x_eq (K := (xK_i Q)) (f285_eq a1 h) hK) (fun hK => (x173 (xh_i (x_ite hK (fun hK => (x_ite hK (fun hK => (fun _ => (fun _ => hK))) (fun hK => hK))) (fun hK => hK))))))
noncomputable def f286 (a1 : Int32) (h : mx_H) : mx_H := x_box (if 24 ≤ (h.2.1 (.inl 105) 88) then (mx_uI h (.inl 105) 88 ((h.2.1 (.inl 105) 88) + 1)) else (mx_uI (mx_uI h (.inl 162) (Int32.toNatClampNeg (h.2.1 (.inl 105) 88)) a1) (.inl 105) 88 (((mx_uI h (.inl 162) (Int32.toNatClampNeg (h.2.1 (.inl 105) 88)) a1).2.1 (.inl 105) 88) + 1)))
theorem f286_eq (a1 : Int32) (h : mx_H) : f286 a1 h = (if 24 ≤ (h.2.1 (.inl 105) 88) then (mx_uI h (.inl 105) 88 ((h.2.1 (.inl 105) 88) + 1)) else (mx_uI (mx_uI h (.inl 162) (Int32.toNatClampNeg (h.2.1 (.inl 105) 88)) a1) (.inl 105) 88 (((mx_uI h (.inl 162) (Int32.toNatClampNeg (h.2.1 (.inl 105) 88)) a1).2.1 (.inl 105) 88) + 1))) := x_box_eq _
theorem x286 {E : mx_Ev} {n : Nat} {h : mx_H} {Q : Option mx_V → mx_H → Prop} {a1 : Int32} (hK : (xK_v Q) (f286 a1 h)) : mx_M E n 286 [.inr (.inl 105), .inl (.int a1)] h Q := by
  cases n with
  | zero => exact mx_L.zero
  | succ n => exact sl286_0 (x_use (x_eq (K := (xK_v Q)) (f286_eq a1 h) hK) (fun hK => (x_ite hK (fun hK => hK) (fun hK => (fun _ => hK)))))
noncomputable def f287 (a1 : Int32) (a2 : Int32) (h : mx_H) : Int32 × mx_H := x_box (x_h (f286 1 h) (fun h2 => (if (h2.2.1 (.inl 117) (Int32.toNatClampNeg a1)) ≤ 0 then ((a2 + 0 : Int32), h2) else ((a2 + (h2.2.1 (.inl 111) (Int32.toNatClampNeg ((h2.2.1 (.inl 117) (Int32.toNatClampNeg a1)) - 1))) : Int32), h2))))
theorem f287_eq (a1 : Int32) (a2 : Int32) (h : mx_H) : f287 a1 a2 h = (x_h (f286 1 h) (fun h2 => (if (h2.2.1 (.inl 117) (Int32.toNatClampNeg a1)) ≤ 0 then ((a2 + 0 : Int32), h2) else ((a2 + (h2.2.1 (.inl 111) (Int32.toNatClampNeg ((h2.2.1 (.inl 117) (Int32.toNatClampNeg a1)) - 1))) : Int32), h2)))) := x_box_eq _
theorem x287 {E : mx_Ev} {n : Nat} {h : mx_H} {Q : Option mx_V → mx_H → Prop} {a1 : Int32} {a2 : Int32} (hK : (xK_i Q) (f287 a1 a2 h)) : mx_M E n 287 [.inr (.inl 105), .inl (.int a1), .inl (.int a2)] h Q := by
  cases n with
  | zero => exact mx_L.zero
  | succ n => exact sl287_0 (x_use (x_eq (K := (xK_i Q)) (f287_eq a1 a2 h) hK) (fun hK => (x286 (xh_n (x_hk hK (fun hK => (fun _ => (x_ite hK (fun hK => hK) (fun hK => (fun _ => (fun _ => hK)))))))))))
noncomputable def f288 (a1 : Int32) (a2 : Int32) (h : mx_H) : Int32 × mx_H := x_box (x_h (f286 20 h) (fun h2 => (x_let (f287 a1 a2 h2) (fun x5 h4 => ((x5 - 1 : Int32), h4)))))
theorem f288_eq (a1 : Int32) (a2 : Int32) (h : mx_H) : f288 a1 a2 h = (x_h (f286 20 h) (fun h2 => (x_let (f287 a1 a2 h2) (fun x5 h4 => ((x5 - 1 : Int32), h4))))) := x_box_eq _
theorem x288 {E : mx_Ev} {n : Nat} {h : mx_H} {Q : Option mx_V → mx_H → Prop} {a1 : Int32} {a2 : Int32} (hK : (xK_i Q) (f288 a1 a2 h)) : mx_M E n 288 [.inr (.inl 105), .inl (.int a1), .inl (.int a2)] h Q := by
  cases n with
  | zero => exact mx_L.zero
  | succ n => exact sl288_0 (x_use (x_eq (K := (xK_i Q)) (f288_eq a1 a2 h) hK) (fun hK => (x286 (xh_n (x_hk hK (fun hK => (x287 (xh_i (x_letk hK (fun hK => hK))))))))))
noncomputable def f289 (a1 : Int32) (a2 : Int32) (h : mx_H) : Int32 × mx_H := x_box (if (f284 (h.2.1 (.inl 116) (Int32.toNatClampNeg a1)) 4) = 0 then (if (f284 (h.2.1 (.inl 116) (Int32.toNatClampNeg a1)) 1) = 0 then (x_let (f287 a1 a2 h) (fun x9 h8 => ((x9 : Int32), h8))) else (x_let (f288 a1 a2 h) (fun x12 h11 => ((x12 : Int32), h11)))) else (x_h (f286 50 h) (fun h14 => (x_let (f288 a1 a2 h14) (fun x17 h16 => ((x17 ^^^ 3 : Int32), h16))))))
theorem f289_eq (a1 : Int32) (a2 : Int32) (h : mx_H) : f289 a1 a2 h = (if (f284 (h.2.1 (.inl 116) (Int32.toNatClampNeg a1)) 4) = 0 then (if (f284 (h.2.1 (.inl 116) (Int32.toNatClampNeg a1)) 1) = 0 then (x_let (f287 a1 a2 h) (fun x9 h8 => ((x9 : Int32), h8))) else (x_let (f288 a1 a2 h) (fun x12 h11 => ((x12 : Int32), h11)))) else (x_h (f286 50 h) (fun h14 => (x_let (f288 a1 a2 h14) (fun x17 h16 => ((x17 ^^^ 3 : Int32), h16)))))) := x_box_eq _
theorem x289 {E : mx_Ev} {n : Nat} {h : mx_H} {Q : Option mx_V → mx_H → Prop} {a1 : Int32} {a2 : Int32} (hK : (xK_i Q) (f289 a1 a2 h)) : mx_M E n 289 [.inr (.inl 105), .inl (.int a1), .inl (.int a2)] h Q := by
  cases n with
  | zero => exact mx_L.zero
  | succ n => exact sl289_0 (x_use (x_eq (K := (xK_i Q)) (f289_eq a1 a2 h) hK) (fun hK => (fun _ => (x284 (xh_i (x_ite hK (fun hK => (fun _ => (x284 (xh_i (x_ite hK (fun hK => (x287 (xh_i (x_letk hK (fun hK => hK))))) (fun hK => (x288 (xh_i (x_letk hK (fun hK => hK)))))))))) (fun hK => (x286 (xh_n (x_hk hK (fun hK => (x288 (xh_i (x_letk hK (fun hK => hK)))))))))))))))
noncomputable def f290 (a1 : Int32) (a2 : Int32) (h : mx_H) : Int32 × mx_H := x_box (x_h (f286 10 h) (fun h2 => (x_let (f289 a1 a2 h2) (fun x5 h4 => ((x5 * 2 : Int32), h4)))))
theorem f290_eq (a1 : Int32) (a2 : Int32) (h : mx_H) : f290 a1 a2 h = (x_h (f286 10 h) (fun h2 => (x_let (f289 a1 a2 h2) (fun x5 h4 => ((x5 * 2 : Int32), h4))))) := x_box_eq _
theorem x290 {E : mx_Ev} {n : Nat} {h : mx_H} {Q : Option mx_V → mx_H → Prop} {a1 : Int32} {a2 : Int32} (hK : (xK_i Q) (f290 a1 a2 h)) : mx_M E n 290 [.inr (.inl 105), .inl (.int a1), .inl (.int a2)] h Q := by
  cases n with
  | zero => exact mx_L.zero
  | succ n => exact sl290_0 (x_use (x_eq (K := (xK_i Q)) (f290_eq a1 a2 h) hK) (fun hK => (x286 (xh_n (x_hk hK (fun hK => (x289 (xh_i (x_letk hK (fun hK => hK))))))))))
noncomputable def f291 (a1 : Int32) (a2 : Int32) (h : mx_H) : Int32 × mx_H := x_box (if (h.2.1 (.inl 116) (Int32.toNatClampNeg a1)) ≠ 2 then (if (h.2.1 (.inl 116) (Int32.toNatClampNeg a1)) ≠ 3 then (x_let (f290 a1 a2 h) (fun x3 h2 => ((x3 : Int32), h2))) else (x_h (f286 40 h) (fun h5 => (x_let (f290 a1 a2 h5) (fun x8 h7 => ((-x8 : Int32), h7)))))) else (x_h (f286 31 h) (fun h10 => (x_let (f290 a1 a2 h10) (fun x13 h12 => (x_let (f289 a1 2 h12) (fun x16 h15 => ((x13 + x16 : Int32), h15))))))))
theorem f291_eq (a1 : Int32) (a2 : Int32) (h : mx_H) : f291 a1 a2 h = (if (h.2.1 (.inl 116) (Int32.toNatClampNeg a1)) ≠ 2 then (if (h.2.1 (.inl 116) (Int32.toNatClampNeg a1)) ≠ 3 then (x_let (f290 a1 a2 h) (fun x3 h2 => ((x3 : Int32), h2))) else (x_h (f286 40 h) (fun h5 => (x_let (f290 a1 a2 h5) (fun x8 h7 => ((-x8 : Int32), h7)))))) else (x_h (f286 31 h) (fun h10 => (x_let (f290 a1 a2 h10) (fun x13 h12 => (x_let (f289 a1 2 h12) (fun x16 h15 => ((x13 + x16 : Int32), h15)))))))) := x_box_eq _
theorem x291 {E : mx_Ev} {n : Nat} {h : mx_H} {Q : Option mx_V → mx_H → Prop} {a1 : Int32} {a2 : Int32} (hK : (xK_i Q) (f291 a1 a2 h)) : mx_M E n 291 [.inr (.inl 105), .inl (.int a1), .inl (.int a2)] h Q := by
  cases n with
  | zero => exact mx_L.zero
  | succ n => exact sl291_0 (x_use (x_eq (K := (xK_i Q)) (f291_eq a1 a2 h) hK) (fun hK => (fun _ => (x_ite hK (fun hK => (fun _ => (x_ite hK (fun hK => (x290 (xh_i (x_letk hK (fun hK => hK))))) (fun hK => (x286 (xh_n (x_hk hK (fun hK => (x290 (xh_i (x_letk hK (fun hK => hK)))))))))))) (fun hK => (x286 (xh_n (x_hk hK (fun hK => (x290 (xh_i (x_letk hK (fun hK => (x289 (xh_i (x_letk hK (fun hK => hK)))))))))))))))))
noncomputable def f292 (a1 : Int32) (a2 : Int32) (h : mx_H) : Int32 × mx_H := x_box (x_h (f286 11 h) (fun h2 => ((a2 ^^^ a1 : Int32), h2)))
theorem f292_eq (a1 : Int32) (a2 : Int32) (h : mx_H) : f292 a1 a2 h = (x_h (f286 11 h) (fun h2 => ((a2 ^^^ a1 : Int32), h2))) := x_box_eq _
theorem x292 {E : mx_Ev} {n : Nat} {h : mx_H} {Q : Option mx_V → mx_H → Prop} {a1 : Int32} {a2 : Int32} (hK : (xK_i Q) (f292 a1 a2 h)) : mx_M E n 292 [.inr (.inl 105), .inl (.int a1), .inl (.int a2)] h Q := by
  cases n with
  | zero => exact mx_L.zero
  | succ n => exact sl292_0 (x_use (x_eq (K := (xK_i Q)) (f292_eq a1 a2 h) hK) (fun hK => (x286 (xh_n (x_hk hK (fun hK => hK))))))
noncomputable def f293 (a1 : Int32) (a2 : Int32) (h : mx_H) : Int32 × mx_H := x_box (if (h.2.1 (.inl 116) (Int32.toNatClampNeg a1)) ≠ 2 then (if (h.2.1 (.inl 116) (Int32.toNatClampNeg a1)) ≠ 5 then (x_let (f292 a1 a2 h) (fun x3 h2 => ((x3 : Int32), h2))) else (x_h (f286 60 h) (fun h5 => (x_let (f292 a1 a2 h5) (fun x8 h7 => (x_let (f291 a1 1 h7) (fun x11 h10 => ((x8 + x11 : Int32), h10)))))))) else (x_h (f286 30 h) (fun h13 => (x_let (f292 a1 a2 h13) (fun x16 h15 => ((x16 * 5 : Int32), h15))))))
theorem f293_eq (a1 : Int32) (a2 : Int32) (h : mx_H) : f293 a1 a2 h = (if (h.2.1 (.inl 116) (Int32.toNatClampNeg a1)) ≠ 2 then (if (h.2.1 (.inl 116) (Int32.toNatClampNeg a1)) ≠ 5 then (x_let (f292 a1 a2 h) (fun x3 h2 => ((x3 : Int32), h2))) else (x_h (f286 60 h) (fun h5 => (x_let (f292 a1 a2 h5) (fun x8 h7 => (x_let (f291 a1 1 h7) (fun x11 h10 => ((x8 + x11 : Int32), h10)))))))) else (x_h (f286 30 h) (fun h13 => (x_let (f292 a1 a2 h13) (fun x16 h15 => ((x16 * 5 : Int32), h15)))))) := x_box_eq _
theorem x293 {E : mx_Ev} {n : Nat} {h : mx_H} {Q : Option mx_V → mx_H → Prop} {a1 : Int32} {a2 : Int32} (hK : (xK_i Q) (f293 a1 a2 h)) : mx_M E n 293 [.inr (.inl 105), .inl (.int a1), .inl (.int a2)] h Q := by
  cases n with
  | zero => exact mx_L.zero
  | succ n => exact sl293_0 (x_use (x_eq (K := (xK_i Q)) (f293_eq a1 a2 h) hK) (fun hK => (fun _ => (x_ite hK (fun hK => (fun _ => (x_ite hK (fun hK => (x292 (xh_i (x_letk hK (fun hK => hK))))) (fun hK => (x286 (xh_n (x_hk hK (fun hK => (x292 (xh_i (x_letk hK (fun hK => (x291 (xh_i (x_letk hK (fun hK => hK)))))))))))))))) (fun hK => (x286 (xh_n (x_hk hK (fun hK => (x292 (xh_i (x_letk hK (fun hK => hK)))))))))))))
noncomputable def f294 (a1 : Int32) (a2 : Int32) (h : mx_H) : Int32 × mx_H := x_box (x_h (f286 2 h) (fun h2 => (x_let (f291 a1 a2 h2) (fun x5 h4 => (x_let (f293 a1 1 h4) (fun x8 h7 => ((x5 + x8 : Int32), h7)))))))
theorem f294_eq (a1 : Int32) (a2 : Int32) (h : mx_H) : f294 a1 a2 h = (x_h (f286 2 h) (fun h2 => (x_let (f291 a1 a2 h2) (fun x5 h4 => (x_let (f293 a1 1 h4) (fun x8 h7 => ((x5 + x8 : Int32), h7))))))) := x_box_eq _
theorem x294 {E : mx_Ev} {n : Nat} {h : mx_H} {Q : Option mx_V → mx_H → Prop} {a1 : Int32} {a2 : Int32} (hK : (xK_i Q) (f294 a1 a2 h)) : mx_M E n 294 [.inr (.inl 105), .inl (.int a1), .inl (.int a2)] h Q := by
  cases n with
  | zero => exact mx_L.zero
  | succ n => exact sl294_0 (x_use (x_eq (K := (xK_i Q)) (f294_eq a1 a2 h) hK) (fun hK => (x286 (xh_n (x_hk hK (fun hK => (x291 (xh_i (x_letk hK (fun hK => (x293 (xh_i (x_letk hK (fun hK => hK))))))))))))))
noncomputable def f295 (a1 : Int32) (a2 : Int32) (h : mx_H) : Int32 × mx_H := x_box (x_h (f286 51 h) (fun h2 => (x_let (f294 a1 (a2 + 1) h2) (fun x5 h4 => ((x5 : Int32), h4)))))
theorem f295_eq (a1 : Int32) (a2 : Int32) (h : mx_H) : f295 a1 a2 h = (x_h (f286 51 h) (fun h2 => (x_let (f294 a1 (a2 + 1) h2) (fun x5 h4 => ((x5 : Int32), h4))))) := x_box_eq _
theorem x295 {E : mx_Ev} {n : Nat} {h : mx_H} {Q : Option mx_V → mx_H → Prop} {a1 : Int32} {a2 : Int32} (hK : (xK_i Q) (f295 a1 a2 h)) : mx_M E n 295 [.inr (.inl 105), .inl (.int a1), .inl (.int a2)] h Q := by
  cases n with
  | zero => exact mx_L.zero
  | succ n => exact sl295_0 (x_use (x_eq (K := (xK_i Q)) (f295_eq a1 a2 h) hK) (fun hK => (x286 (xh_n (x_hk hK (fun hK => (x294 (xh_i (x_letk hK (fun hK => hK))))))))))
noncomputable def f296 (a1 : Int32) (a2 : Int32) (h : mx_H) : Int32 × mx_H := x_box (if (h.2.1 (.inl 116) (Int32.toNatClampNeg a1)) ≠ 5 then (if (h.2.1 (.inl 116) (Int32.toNatClampNeg a1)) ≠ 4 then (x_let (f294 a1 a2 h) (fun x3 h2 => ((x3 : Int32), h2))) else (x_let (f295 a1 a2 h) (fun x6 h5 => ((x6 : Int32), h5)))) else (x_h (f286 61 h) (fun h8 => (x_let (f295 a1 a2 h8) (fun x11 h10 => ((x11 * 2 : Int32), h10))))))
theorem f296_eq (a1 : Int32) (a2 : Int32) (h : mx_H) : f296 a1 a2 h = (if (h.2.1 (.inl 116) (Int32.toNatClampNeg a1)) ≠ 5 then (if (h.2.1 (.inl 116) (Int32.toNatClampNeg a1)) ≠ 4 then (x_let (f294 a1 a2 h) (fun x3 h2 => ((x3 : Int32), h2))) else (x_let (f295 a1 a2 h) (fun x6 h5 => ((x6 : Int32), h5)))) else (x_h (f286 61 h) (fun h8 => (x_let (f295 a1 a2 h8) (fun x11 h10 => ((x11 * 2 : Int32), h10)))))) := x_box_eq _
theorem x296 {E : mx_Ev} {n : Nat} {h : mx_H} {Q : Option mx_V → mx_H → Prop} {a1 : Int32} {a2 : Int32} (hK : (xK_i Q) (f296 a1 a2 h)) : mx_M E n 296 [.inr (.inl 105), .inl (.int a1), .inl (.int a2)] h Q := by
  cases n with
  | zero => exact mx_L.zero
  | succ n => exact sl296_0 (x_use (x_eq (K := (xK_i Q)) (f296_eq a1 a2 h) hK) (fun hK => (fun _ => (x_ite hK (fun hK => (fun _ => (x_ite hK (fun hK => (x294 (xh_i (x_letk hK (fun hK => hK))))) (fun hK => (x295 (xh_i (x_letk hK (fun hK => hK)))))))) (fun hK => (x286 (xh_n (x_hk hK (fun hK => (x295 (xh_i (x_letk hK (fun hK => hK)))))))))))))
noncomputable def f297 (a1 : Int32) (a2 : Int32) (a3 : Int32) (h : mx_H) : Int32 × mx_H := x_box (if (f283 a1 (mx_uI h (.inl 105) 88 0)) = 0 then ((0 : Int32), (mx_uI h (.inl 105) 88 0)) else (if (f173 a2 0 3) ≠ 0 then (if a2 ≠ 0 then (if a2 ≠ 1 then (if a2 ≠ 2 then (x_let (f296 a1 a3 (mx_uI h (.inl 105) 88 0)) (fun x9 h8 => ((x9 : Int32), h8))) else (x_let (f293 a1 a3 (mx_uI h (.inl 105) 88 0)) (fun x12 h11 => ((x12 : Int32), h11)))) else (x_let (f291 a1 a3 (mx_uI h (.inl 105) 88 0)) (fun x15 h14 => ((x15 : Int32), h14)))) else (x_let (f289 a1 a3 (mx_uI h (.inl 105) 88 0)) (fun x18 h17 => ((x18 : Int32), h17)))) else ((0 : Int32), (mx_uI h (.inl 105) 88 0))))
theorem f297_eq (a1 : Int32) (a2 : Int32) (a3 : Int32) (h : mx_H) : f297 a1 a2 a3 h = (if (f283 a1 (mx_uI h (.inl 105) 88 0)) = 0 then ((0 : Int32), (mx_uI h (.inl 105) 88 0)) else (if (f173 a2 0 3) ≠ 0 then (if a2 ≠ 0 then (if a2 ≠ 1 then (if a2 ≠ 2 then (x_let (f296 a1 a3 (mx_uI h (.inl 105) 88 0)) (fun x9 h8 => ((x9 : Int32), h8))) else (x_let (f293 a1 a3 (mx_uI h (.inl 105) 88 0)) (fun x12 h11 => ((x12 : Int32), h11)))) else (x_let (f291 a1 a3 (mx_uI h (.inl 105) 88 0)) (fun x15 h14 => ((x15 : Int32), h14)))) else (x_let (f289 a1 a3 (mx_uI h (.inl 105) 88 0)) (fun x18 h17 => ((x18 : Int32), h17)))) else ((0 : Int32), (mx_uI h (.inl 105) 88 0)))) := x_box_eq _
theorem x297 {E : mx_Ev} {n : Nat} {h : mx_H} {Q : Option mx_V → mx_H → Prop} {a1 : Int32} {a2 : Int32} {a3 : Int32} (hK : (xK_i Q) (f297 a1 a2 a3 h)) : mx_M E n 297 [.inr (.inl 105), .inl (.int a1), .inl (.int a2), .inl (.int a3)] h Q := by
  cases n with
  | zero => exact mx_L.zero
  | succ n => exact sl297_0 (x_use (x_eq (K := (xK_i Q)) (f297_eq a1 a2 a3 h) hK) (fun hK => (x283 (xh_i (x_ite hK (fun hK => hK) (fun hK => (x173 (xh_i (x_ite hK (fun hK => (x_ite hK (fun hK => (x_ite hK (fun hK => (x_ite hK (fun hK => (x296 (xh_i (x_letk hK (fun hK => hK))))) (fun hK => (x293 (xh_i (x_letk hK (fun hK => hK))))))) (fun hK => (x291 (xh_i (x_letk hK (fun hK => hK))))))) (fun hK => (x289 (xh_i (x_letk hK (fun hK => hK))))))) (fun hK => hK))))))))))
noncomputable def f298 (a1 : Int32) (h : mx_H) : Int32 := x_box (if a1 < 0 then ((-1) : Int32) else (if (h.2.1 (.inl 105) 88) ≤ a1 then ((-1) : Int32) else (if 24 ≤ a1 then ((-1) : Int32) else (h.2.1 (.inl 162) (Int32.toNatClampNeg a1) : Int32))))
theorem f298_eq (a1 : Int32) (h : mx_H) : f298 a1 h = (if a1 < 0 then ((-1) : Int32) else (if (h.2.1 (.inl 105) 88) ≤ a1 then ((-1) : Int32) else (if 24 ≤ a1 then ((-1) : Int32) else (h.2.1 (.inl 162) (Int32.toNatClampNeg a1) : Int32)))) := x_box_eq _
theorem x298 {E : mx_Ev} {n : Nat} {h : mx_H} {Q : Option mx_V → mx_H → Prop} {a1 : Int32} (hK : (xK_ip Q h) (f298 a1 h)) : mx_M E n 298 [.inr (.inl 105), .inl (.int a1)] h Q := by
  cases n with
  | zero => exact mx_L.zero
  | succ n => exact sl298_0 (x_use (x_eq (K := (xK_ip Q h)) (f298_eq a1 h) hK) (fun hK => (x_ite hK (fun hK => hK) (fun hK => (x_ite hK (fun hK => hK) (fun hK => (x_ite hK (fun hK => hK) (fun hK => (fun _ => hK)))))))))
noncomputable def b299 : ((mx_H) ⊕ (mx_H) ⊕ (mx_H) ⊕ (mx_H) ⊕ (mx_H) ⊕ (mx_H) ⊕ (mx_H)) → ((mx_H) ⊕ (mx_H) ⊕ (mx_H) ⊕ (mx_H) ⊕ (mx_H) ⊕ (mx_H) ⊕ (mx_H)) ⊕ (Int32)
  | (.inl h) => (Sum.inr (h.2.1 (.inl 105) 1 : Int32))
  | (.inr (.inl h)) => (Sum.inr (h.2.1 (.inl 105) 12 : Int32))
  | (.inr (.inr (.inl h))) => (Sum.inr (h.2.1 (.inl 105) 16 : Int32))
  | (.inr (.inr (.inr (.inl h)))) => (Sum.inr (h.2.1 (.inl 105) 24 : Int32))
  | (.inr (.inr (.inr (.inr (.inl h))))) => (Sum.inr (h.2.1 (.inl 105) 88 : Int32))
  | (.inr (.inr (.inr (.inr (.inr (.inl h)))))) => (Sum.inr (h.2.1 (.inl 105) 74 : Int32))
  | (.inr (.inr (.inr (.inr (.inr (.inr h)))))) => (Sum.inr ((-1) : Int32))
noncomputable def g299_40  (h : mx_H) : Int32 := ml_wh b299 (.inl h)
noncomputable def g299_45  (h : mx_H) : Int32 := ml_wh b299 (.inr (.inl h))
noncomputable def g299_50  (h : mx_H) : Int32 := ml_wh b299 (.inr (.inr (.inl h)))
noncomputable def g299_55  (h : mx_H) : Int32 := ml_wh b299 (.inr (.inr (.inr (.inl h))))
noncomputable def g299_60  (h : mx_H) : Int32 := ml_wh b299 (.inr (.inr (.inr (.inr (.inl h)))))
noncomputable def g299_65  (h : mx_H) : Int32 := ml_wh b299 (.inr (.inr (.inr (.inr (.inr (.inl h))))))
noncomputable def g299_70  (h : mx_H) : Int32 := ml_wh b299 (.inr (.inr (.inr (.inr (.inr (.inr h))))))
theorem g299_40_eq  (h : mx_H) : g299_40  h = (h.2.1 (.inl 105) 1 : Int32) := by
  unfold g299_40
  rw [ml_wh_eq]
  simp only [b299, ml_go_ite, ml_go_l, ml_go_r, ml_go_opt, ml_go_let, ml_go_h, ml_go_val]
  try rfl
theorem g299_45_eq  (h : mx_H) : g299_45  h = (h.2.1 (.inl 105) 12 : Int32) := by
  unfold g299_45
  rw [ml_wh_eq]
  simp only [b299, ml_go_ite, ml_go_l, ml_go_r, ml_go_opt, ml_go_let, ml_go_h, ml_go_val]
  try rfl
theorem g299_50_eq  (h : mx_H) : g299_50  h = (h.2.1 (.inl 105) 16 : Int32) := by
  unfold g299_50
  rw [ml_wh_eq]
  simp only [b299, ml_go_ite, ml_go_l, ml_go_r, ml_go_opt, ml_go_let, ml_go_h, ml_go_val]
  try rfl
theorem g299_55_eq  (h : mx_H) : g299_55  h = (h.2.1 (.inl 105) 24 : Int32) := by
  unfold g299_55
  rw [ml_wh_eq]
  simp only [b299, ml_go_ite, ml_go_l, ml_go_r, ml_go_opt, ml_go_let, ml_go_h, ml_go_val]
  try rfl
theorem g299_60_eq  (h : mx_H) : g299_60  h = (h.2.1 (.inl 105) 88 : Int32) := by
  unfold g299_60
  rw [ml_wh_eq]
  simp only [b299, ml_go_ite, ml_go_l, ml_go_r, ml_go_opt, ml_go_let, ml_go_h, ml_go_val]
  try rfl
theorem g299_65_eq  (h : mx_H) : g299_65  h = (h.2.1 (.inl 105) 74 : Int32) := by
  unfold g299_65
  rw [ml_wh_eq]
  simp only [b299, ml_go_ite, ml_go_l, ml_go_r, ml_go_opt, ml_go_let, ml_go_h, ml_go_val]
  try rfl
theorem g299_70_eq  (h : mx_H) : g299_70  h = ((-1) : Int32) := by
  unfold g299_70
  rw [ml_wh_eq]
  simp only [b299, ml_go_ite, ml_go_l, ml_go_r, ml_go_opt, ml_go_let, ml_go_h, ml_go_val]
  try rfl
noncomputable def f299 (a1 : Int32) (h : mx_H) : Int32 := x_box (if a1 = 0 then (g299_40  h) else (if a1 = 1 then (g299_45  h) else (if a1 = 2 then (g299_50  h) else (if a1 = 3 then (g299_55  h) else (if a1 = 4 then (g299_60  h) else (if a1 = 5 then (g299_65  h) else (g299_70  h)))))))
theorem f299_eq (a1 : Int32) (h : mx_H) : f299 a1 h = (if a1 = 0 then (g299_40  h) else (if a1 = 1 then (g299_45  h) else (if a1 = 2 then (g299_50  h) else (if a1 = 3 then (g299_55  h) else (if a1 = 4 then (g299_60  h) else (if a1 = 5 then (g299_65  h) else (g299_70  h))))))) := x_box_eq _
theorem xw299 {E : mx_Ev} {Q : Option mx_V → mx_H → Prop} : ∀ n : Nat, (∀ (h : mx_H), (xK_ip Q h) (g299_40  h) → mx_L E n 299 40 [(0, .inr (.inl 105))] [] h Q) ∧ (∀ (h : mx_H), (xK_ip Q h) (g299_45  h) → mx_L E n 299 45 [(0, .inr (.inl 105))] [] h Q) ∧ (∀ (h : mx_H), (xK_ip Q h) (g299_50  h) → mx_L E n 299 50 [(0, .inr (.inl 105))] [] h Q) ∧ (∀ (h : mx_H), (xK_ip Q h) (g299_55  h) → mx_L E n 299 55 [(0, .inr (.inl 105))] [] h Q) ∧ (∀ (h : mx_H), (xK_ip Q h) (g299_60  h) → mx_L E n 299 60 [(0, .inr (.inl 105))] [] h Q) ∧ (∀ (h : mx_H), (xK_ip Q h) (g299_65  h) → mx_L E n 299 65 [(0, .inr (.inl 105))] [] h Q) ∧ (∀ (h : mx_H), (xK_ip Q h) (g299_70  h) → mx_L E n 299 70 [] [] h Q)
  | 0 => ⟨fun _ _ => mx_L.zero, fun _ _ => mx_L.zero, fun _ _ => mx_L.zero, fun _ _ => mx_L.zero, fun _ _ => mx_L.zero, fun _ _ => mx_L.zero, fun _ _ => mx_L.zero⟩
  | n + 1 => ⟨fun h hK => sl299_40 (x_use (x_eq (K := (xK_ip Q h)) (g299_40_eq  h) hK) (fun hK => hK)), fun h hK => sl299_45 (x_use (x_eq (K := (xK_ip Q h)) (g299_45_eq  h) hK) (fun hK => hK)), fun h hK => sl299_50 (x_use (x_eq (K := (xK_ip Q h)) (g299_50_eq  h) hK) (fun hK => hK)), fun h hK => sl299_55 (x_use (x_eq (K := (xK_ip Q h)) (g299_55_eq  h) hK) (fun hK => hK)), fun h hK => sl299_60 (x_use (x_eq (K := (xK_ip Q h)) (g299_60_eq  h) hK) (fun hK => hK)), fun h hK => sl299_65 (x_use (x_eq (K := (xK_ip Q h)) (g299_65_eq  h) hK) (fun hK => hK)), fun h hK => sl299_70 (x_use (x_eq (K := (xK_ip Q h)) (g299_70_eq  h) hK) (fun hK => hK))⟩
theorem x299 {E : mx_Ev} {n : Nat} {h : mx_H} {Q : Option mx_V → mx_H → Prop} {a1 : Int32} (hK : (xK_ip Q h) (f299 a1 h)) : mx_M E n 299 [.inr (.inl 105), .inl (.int a1)] h Q := by
  cases n with
  | zero => exact mx_L.zero
  | succ n => exact sl299_0 (x_use (x_eq (K := (xK_ip Q h)) (f299_eq a1 h) hK) (fun hK => (fun tgt q => by
          rcases q with ⟨q, e⟩ | ⟨q1, q2, o, qo, e⟩
          · have e2 : tgt = 70 := by omega
            subst e2
            replace hK := x_neg (fun e => by rw [e] at q; revert q; decide) hK
            replace hK := x_neg (fun e => by rw [e] at q; revert q; decide) hK
            replace hK := x_neg (fun e => by rw [e] at q; revert q; decide) hK
            replace hK := x_neg (fun e => by rw [e] at q; revert q; decide) hK
            replace hK := x_neg (fun e => by rw [e] at q; revert q; decide) hK
            replace hK := x_neg (fun e => by rw [e] at q; revert q; decide) hK
            exact mx_L.sub (lv' := mx_nrm [] [(0, .inr (.inl 105)), (1, .inl (.int a1))]) mx_nrm_mem ((xw299 n).2.2.2.2.2.2 _ hK)
          · have hv : Int32.toInt a1 = 0 ∨ Int32.toInt a1 = 1 ∨ Int32.toInt a1 = 2 ∨ Int32.toInt a1 = 3 ∨ Int32.toInt a1 = 4 ∨ Int32.toInt a1 = 5 := by omega
            rcases hv with hv | hv | hv | hv | hv | hv
            · rw [hv] at qo
              have eo : o = 39 := (Option.some.inj (qo.symm.trans (rfl : _ = some (39 : Int))))
              have e2 : tgt = 40 := by omega
              subst e2
              replace hK := x_pos (Int32.toInt_inj.mp (hv.trans rfl)) hK
              exact mx_L.sub (lv' := mx_nrm [0] [(0, .inr (.inl 105)), (1, .inl (.int a1))]) mx_nrm_mem ((xw299 n).1 _ hK)
            · rw [hv] at qo
              have eo : o = 44 := (Option.some.inj (qo.symm.trans (rfl : _ = some (44 : Int))))
              have e2 : tgt = 45 := by omega
              subst e2
              replace hK := x_neg (fun e => by rw [e] at hv; revert hv; decide) hK
              replace hK := x_pos (Int32.toInt_inj.mp (hv.trans rfl)) hK
              exact mx_L.sub (lv' := mx_nrm [0] [(0, .inr (.inl 105)), (1, .inl (.int a1))]) mx_nrm_mem ((xw299 n).2.1 _ hK)
            · rw [hv] at qo
              have eo : o = 49 := (Option.some.inj (qo.symm.trans (rfl : _ = some (49 : Int))))
              have e2 : tgt = 50 := by omega
              subst e2
              replace hK := x_neg (fun e => by rw [e] at hv; revert hv; decide) hK
              replace hK := x_neg (fun e => by rw [e] at hv; revert hv; decide) hK
              replace hK := x_pos (Int32.toInt_inj.mp (hv.trans rfl)) hK
              exact mx_L.sub (lv' := mx_nrm [0] [(0, .inr (.inl 105)), (1, .inl (.int a1))]) mx_nrm_mem ((xw299 n).2.2.1 _ hK)
            · rw [hv] at qo
              have eo : o = 54 := (Option.some.inj (qo.symm.trans (rfl : _ = some (54 : Int))))
              have e2 : tgt = 55 := by omega
              subst e2
              replace hK := x_neg (fun e => by rw [e] at hv; revert hv; decide) hK
              replace hK := x_neg (fun e => by rw [e] at hv; revert hv; decide) hK
              replace hK := x_neg (fun e => by rw [e] at hv; revert hv; decide) hK
              replace hK := x_pos (Int32.toInt_inj.mp (hv.trans rfl)) hK
              exact mx_L.sub (lv' := mx_nrm [0] [(0, .inr (.inl 105)), (1, .inl (.int a1))]) mx_nrm_mem ((xw299 n).2.2.2.1 _ hK)
            · rw [hv] at qo
              have eo : o = 59 := (Option.some.inj (qo.symm.trans (rfl : _ = some (59 : Int))))
              have e2 : tgt = 60 := by omega
              subst e2
              replace hK := x_neg (fun e => by rw [e] at hv; revert hv; decide) hK
              replace hK := x_neg (fun e => by rw [e] at hv; revert hv; decide) hK
              replace hK := x_neg (fun e => by rw [e] at hv; revert hv; decide) hK
              replace hK := x_neg (fun e => by rw [e] at hv; revert hv; decide) hK
              replace hK := x_pos (Int32.toInt_inj.mp (hv.trans rfl)) hK
              exact mx_L.sub (lv' := mx_nrm [0] [(0, .inr (.inl 105)), (1, .inl (.int a1))]) mx_nrm_mem ((xw299 n).2.2.2.2.1 _ hK)
            · rw [hv] at qo
              have eo : o = 64 := (Option.some.inj (qo.symm.trans (rfl : _ = some (64 : Int))))
              have e2 : tgt = 65 := by omega
              subst e2
              replace hK := x_neg (fun e => by rw [e] at hv; revert hv; decide) hK
              replace hK := x_neg (fun e => by rw [e] at hv; revert hv; decide) hK
              replace hK := x_neg (fun e => by rw [e] at hv; revert hv; decide) hK
              replace hK := x_neg (fun e => by rw [e] at hv; revert hv; decide) hK
              replace hK := x_neg (fun e => by rw [e] at hv; revert hv; decide) hK
              replace hK := x_pos (Int32.toInt_inj.mp (hv.trans rfl)) hK
              exact mx_L.sub (lv' := mx_nrm [0] [(0, .inr (.inl 105)), (1, .inl (.int a1))]) mx_nrm_mem ((xw299 n).2.2.2.2.2.1 _ hK))))
noncomputable def f301 (a1 : Int32) (a2 : Int32) (h : mx_H) : Int32 × mx_H := x_box (if (f300 a1) = 0 then (((-1) : Int32), h) else (if a2 = (-1) then ((1 : Int32), mx_uI h (.inl 163) (Int32.toNatClampNeg a1) a2) else (if (f283 a2 h) ≠ 0 then ((1 : Int32), mx_uI h (.inl 163) (Int32.toNatClampNeg a1) a2) else (((-1) : Int32), h))))
theorem f301_eq (a1 : Int32) (a2 : Int32) (h : mx_H) : f301 a1 a2 h = (if (f300 a1) = 0 then (((-1) : Int32), h) else (if a2 = (-1) then ((1 : Int32), mx_uI h (.inl 163) (Int32.toNatClampNeg a1) a2) else (if (f283 a2 h) ≠ 0 then ((1 : Int32), mx_uI h (.inl 163) (Int32.toNatClampNeg a1) a2) else (((-1) : Int32), h)))) := x_box_eq _
theorem x301 {E : mx_Ev} {n : Nat} {h : mx_H} {Q : Option mx_V → mx_H → Prop} {a1 : Int32} {a2 : Int32} (hK : (xK_i Q) (f301 a1 a2 h)) : mx_M E n 301 [.inr (.inl 105), .inl (.int a1), .inl (.int a2)] h Q := by
  cases n with
  | zero => exact mx_L.zero
  | succ n => exact sl301_0 (x_use (x_eq (K := (xK_i Q)) (f301_eq a1 a2 h) hK) (fun hK => (x300 (xh_i (x_ite hK (fun hK => hK) (fun hK => (x_ite hK (fun hK => (fun _ => hK)) (fun hK => (x283 (xh_i (x_ite hK (fun hK => (fun _ => hK)) (fun hK => hK))))))))))))
noncomputable def b302 : ((Int32 × Int32 × mx_H)) → ((Int32 × Int32 × mx_H)) ⊕ (Int32 × mx_H)
  | (a1, a4, h) => (if ((60 * a1) + 60) ≤ a4 then (Sum.inr ((1 : Int32), h)) else (Sum.inl (a1, (a4 + 1), mx_uL h (.inl 165) (Int32.toNatClampNeg a4) 0)))
noncomputable def g302_54 (a1 : Int32) (a4 : Int32) (h : mx_H) : Int32 × mx_H := ml_wh b302 (a1, a4, h)
theorem g302_54_eq (a1 : Int32) (a4 : Int32) (h : mx_H) : g302_54 a1 a4 h = (if ((60 * a1) + 60) ≤ a4 then ((1 : Int32), h) else (g302_54 a1 (a4 + 1) (mx_uL h (.inl 165) (Int32.toNatClampNeg a4) 0))) := by
  unfold g302_54
  rw [ml_wh_eq]
  simp only [b302, ml_go_ite, ml_go_l, ml_go_r, ml_go_opt, ml_go_let, ml_go_h, ml_go_val]
  try rfl
noncomputable def f302 (a1 : Int32) (a2 : Int32) (a3 : Int32) (h : mx_H) : Int32 × mx_H := x_box (if (f300 a1) = 0 then (((-1) : Int32), h) else (if (f173 a2 0 4) = 0 then (((-1) : Int32), h) else (if a3 ≤ 60 then (if 0 ≤ a3 then (g302_54 a1 (60 * a1) (mx_uI (mx_uI h (.inl 163) (Int32.toNatClampNeg a1) ((-2) - a2)) (.inl 164) (Int32.toNatClampNeg a1) a3)) else (((-14) : Int32), h)) else (((-1) : Int32), h))))
theorem f302_eq (a1 : Int32) (a2 : Int32) (a3 : Int32) (h : mx_H) : f302 a1 a2 a3 h = (if (f300 a1) = 0 then (((-1) : Int32), h) else (if (f173 a2 0 4) = 0 then (((-1) : Int32), h) else (if a3 ≤ 60 then (if 0 ≤ a3 then (g302_54 a1 (60 * a1) (mx_uI (mx_uI h (.inl 163) (Int32.toNatClampNeg a1) ((-2) - a2)) (.inl 164) (Int32.toNatClampNeg a1) a3)) else (((-14) : Int32), h)) else (((-1) : Int32), h)))) := x_box_eq _
theorem xw302 {E : mx_Ev} {Q : Option mx_V → mx_H → Prop} : ∀ n : Nat, (∀ (a1 : Int32) (a4 : Int32) (h : mx_H), (xK_i Q) (g302_54 a1 a4 h) → mx_L E n 302 54 [(0, .inr (.inl 105)), (1, .inl (.int a1)), (4, .inl (.int a4))] [] h Q)
  | 0 => fun _ _ _ _ => mx_L.zero
  | n + 1 => fun a1 a4 h hK => sl302_54 (x_use (x_eq (K := (xK_i Q)) (g302_54_eq a1 a4 h) hK) (fun hK => (x_ite hK (fun hK => hK) (fun hK => (fun _ => ((xw302 n) _ _ _ hK))))))
theorem x302 {E : mx_Ev} {n : Nat} {h : mx_H} {Q : Option mx_V → mx_H → Prop} {a1 : Int32} {a2 : Int32} {a3 : Int32} (hK : (xK_i Q) (f302 a1 a2 a3 h)) : mx_M E n 302 [.inr (.inl 105), .inl (.int a1), .inl (.int a2), .inl (.int a3)] h Q := by
  cases n with
  | zero => exact mx_L.zero
  | succ n => exact sl302_0 (x_use (x_eq (K := (xK_i Q)) (f302_eq a1 a2 a3 h) hK) (fun hK => (x300 (xh_i (x_ite hK (fun hK => hK) (fun hK => (x173 (xh_i (x_ite hK (fun hK => hK) (fun hK => (x_ite hK (fun hK => (x_ite hK (fun hK => (fun _ => (fun _ => ((xw302 n) _ _ _ hK)))) (fun hK => hK))) (fun hK => hK))))))))))))
noncomputable def f303 (a1 : Int32) (a2 : Int32) (h : mx_H) : Int32 := x_box (if (f300 a1) ≠ 0 then (if (h.2.1 (.inl 163) (Int32.toNatClampNeg a1)) ≠ (-1) then (if (h.2.1 (.inl 163) (Int32.toNatClampNeg a1)) < 0 then (if (f173 a2 0 ((h.2.1 (.inl 164) (Int32.toNatClampNeg a1)) - 1)) = 0 then ((-13) : Int32) else (0 : Int32)) else ((-12) : Int32)) else ((-11) : Int32)) else ((-1) : Int32))
theorem f303_eq (a1 : Int32) (a2 : Int32) (h : mx_H) : f303 a1 a2 h = (if (f300 a1) ≠ 0 then (if (h.2.1 (.inl 163) (Int32.toNatClampNeg a1)) ≠ (-1) then (if (h.2.1 (.inl 163) (Int32.toNatClampNeg a1)) < 0 then (if (f173 a2 0 ((h.2.1 (.inl 164) (Int32.toNatClampNeg a1)) - 1)) = 0 then ((-13) : Int32) else (0 : Int32)) else ((-12) : Int32)) else ((-11) : Int32)) else ((-1) : Int32)) := x_box_eq _
theorem x303 {E : mx_Ev} {n : Nat} {h : mx_H} {Q : Option mx_V → mx_H → Prop} {a1 : Int32} {a2 : Int32} (hK : (xK_ip Q h) (f303 a1 a2 h)) : mx_M E n 303 [.inr (.inl 105), .inl (.int a1), .inl (.int a2)] h Q := by
  cases n with
  | zero => exact mx_L.zero
  | succ n => exact sl303_0 (x_use (x_eq (K := (xK_ip Q h)) (f303_eq a1 a2 h) hK) (fun hK => (x300 (xh_i (x_ite hK (fun hK => (fun _ => (x_ite hK (fun hK => (fun _ => (x_ite hK (fun hK => (fun _ => (x173 (xh_i (x_ite hK (fun hK => hK) (fun hK => hK)))))) (fun hK => hK)))) (fun hK => hK)))) (fun hK => hK))))))
noncomputable def f304 (a1 : Int32) (a2 : Int32) (a3 : Int64) (h : mx_H) : Int32 × mx_H := x_box (x_val (f303 a1 a2 h) (fun x3 => (if 0 ≤ x3 then (if ((-2) - (h.2.1 (.inl 163) (Int32.toNatClampNeg a1))) ≠ 0 then (if ((-2) - (h.2.1 (.inl 163) (Int32.toNatClampNeg a1))) ≠ 1 then (if ((-2) - (h.2.1 (.inl 163) (Int32.toNatClampNeg a1))) ≠ 2 then (if ((-2) - (h.2.1 (.inl 163) (Int32.toNatClampNeg a1))) ≠ 3 then (if (lg_cmp a3 0) = 0 then ((1 : Int32), mx_uL h (.inl 165) (Int32.toNatClampNeg ((60 * a1) + a2)) 0) else ((1 : Int32), mx_uL h (.inl 165) (Int32.toNatClampNeg ((60 * a1) + a2)) 1)) else ((1 : Int32), mx_uL h (.inl 165) (Int32.toNatClampNeg ((60 * a1) + a2)) a3)) else ((1 : Int32), mx_uL h (.inl 165) (Int32.toNatClampNeg ((60 * a1) + a2)) (Int32.toInt64 (Int64.toInt32 a3)))) else ((1 : Int32), mx_uL h (.inl 165) (Int32.toNatClampNeg ((60 * a1) + a2)) (Int32.toInt64 ((Int32.toInt16 (Int64.toInt32 a3)).toInt32)))) else ((1 : Int32), mx_uL h (.inl 165) (Int32.toNatClampNeg ((60 * a1) + a2)) (Int32.toInt64 ((Int32.toInt8 (Int64.toInt32 a3)).toInt32)))) else ((x3 : Int32), h))))
theorem f304_eq (a1 : Int32) (a2 : Int32) (a3 : Int64) (h : mx_H) : f304 a1 a2 a3 h = (x_val (f303 a1 a2 h) (fun x3 => (if 0 ≤ x3 then (if ((-2) - (h.2.1 (.inl 163) (Int32.toNatClampNeg a1))) ≠ 0 then (if ((-2) - (h.2.1 (.inl 163) (Int32.toNatClampNeg a1))) ≠ 1 then (if ((-2) - (h.2.1 (.inl 163) (Int32.toNatClampNeg a1))) ≠ 2 then (if ((-2) - (h.2.1 (.inl 163) (Int32.toNatClampNeg a1))) ≠ 3 then (if (lg_cmp a3 0) = 0 then ((1 : Int32), mx_uL h (.inl 165) (Int32.toNatClampNeg ((60 * a1) + a2)) 0) else ((1 : Int32), mx_uL h (.inl 165) (Int32.toNatClampNeg ((60 * a1) + a2)) 1)) else ((1 : Int32), mx_uL h (.inl 165) (Int32.toNatClampNeg ((60 * a1) + a2)) a3)) else ((1 : Int32), mx_uL h (.inl 165) (Int32.toNatClampNeg ((60 * a1) + a2)) (Int32.toInt64 (Int64.toInt32 a3)))) else ((1 : Int32), mx_uL h (.inl 165) (Int32.toNatClampNeg ((60 * a1) + a2)) (Int32.toInt64 ((Int32.toInt16 (Int64.toInt32 a3)).toInt32)))) else ((1 : Int32), mx_uL h (.inl 165) (Int32.toNatClampNeg ((60 * a1) + a2)) (Int32.toInt64 ((Int32.toInt8 (Int64.toInt32 a3)).toInt32)))) else ((x3 : Int32), h)))) := x_box_eq _
theorem x304 {E : mx_Ev} {n : Nat} {h : mx_H} {Q : Option mx_V → mx_H → Prop} {a1 : Int32} {a2 : Int32} {a3 : Int64} (hK : (xK_i Q) (f304 a1 a2 a3 h)) : mx_M E n 304 [.inr (.inl 105), .inl (.int a1), .inl (.int a2), .inl (.long a3)] h Q := by
  cases n with
  | zero => exact mx_L.zero
  | succ n => exact sl304_0 (x_use (x_eq (K := (xK_i Q)) (f304_eq a1 a2 a3 h) hK) (fun hK => (x303 (xh_i (x_valk hK (fun hK => (x_ite hK (fun hK => (fun _ => (x_ite hK (fun hK => (x_ite hK (fun hK => (x_ite hK (fun hK => (x_ite hK (fun hK => (x_ite hK (fun hK => (fun _ => hK)) (fun hK => (fun _ => hK)))) (fun hK => (fun _ => hK)))) (fun hK => (fun _ => hK)))) (fun hK => (fun _ => hK)))) (fun hK => (fun _ => hK))))) (fun hK => hK))))))))
noncomputable def f305 (a1 : Int32) (a2 : Int32) (h : mx_H) : Int64 := x_box (if 0 ≤ (f303 a1 a2 h) then (h.2.2.1 (.inl 165) (Int32.toNatClampNeg ((60 * a1) + a2)) : Int64) else ((-9223372036854775808) : Int64))
theorem f305_eq (a1 : Int32) (a2 : Int32) (h : mx_H) : f305 a1 a2 h = (if 0 ≤ (f303 a1 a2 h) then (h.2.2.1 (.inl 165) (Int32.toNatClampNeg ((60 * a1) + a2)) : Int64) else ((-9223372036854775808) : Int64)) := x_box_eq _
theorem x305 {E : mx_Ev} {n : Nat} {h : mx_H} {Q : Option mx_V → mx_H → Prop} {a1 : Int32} {a2 : Int32} (hK : (xK_lp Q h) (f305 a1 a2 h)) : mx_M E n 305 [.inr (.inl 105), .inl (.int a1), .inl (.int a2)] h Q := by
  cases n with
  | zero => exact mx_L.zero
  | succ n => exact sl305_0 (x_use (x_eq (K := (xK_lp Q h)) (f305_eq a1 a2 h) hK) (fun hK => (x303 (xh_i (x_ite hK (fun hK => (fun _ => hK)) (fun hK => hK))))))
noncomputable def b306 : ((Int32 × Int32 × Int32 × Int32 × Int32 × Int32 × mx_H) ⊕ (Int32 × Int32 × Int32 × Int32 × mx_H)) → ((Int32 × Int32 × Int32 × Int32 × Int32 × Int32 × mx_H) ⊕ (Int32 × Int32 × Int32 × Int32 × mx_H)) ⊕ (Int32 × mx_H)
  | (.inl (a1, a2, a3, a4, a5, a6, h)) => (if a5 ≤ a6 then (Sum.inl (.inr (a3, a4, a5, 0, h))) else (Sum.inl (.inl (a1, a2, a3, a4, a5, (a6 + 1), mx_uL h (.inl 166) (Int32.toNatClampNeg a6) (h.2.2.1 (.inl 165) (Int32.toNatClampNeg (((60 * a1) + a2) + a6)))))))
  | (.inr (a3, a4, a5, a6, h)) => (if a5 ≤ a6 then (Sum.inr ((a5 : Int32), h)) else (Sum.inl (.inr (a3, a4, a5, (a6 + 1), mx_uL h (.inl 165) (Int32.toNatClampNeg (((60 * a3) + a4) + a6)) (h.2.2.1 (.inl 166) (Int32.toNatClampNeg a6))))))
noncomputable def g306_113 (a1 : Int32) (a2 : Int32) (a3 : Int32) (a4 : Int32) (a5 : Int32) (a6 : Int32) (h : mx_H) : Int32 × mx_H := ml_wh b306 (.inl (a1, a2, a3, a4, a5, a6, h))
noncomputable def g306_150 (a3 : Int32) (a4 : Int32) (a5 : Int32) (a6 : Int32) (h : mx_H) : Int32 × mx_H := ml_wh b306 (.inr (a3, a4, a5, a6, h))
theorem g306_113_eq (a1 : Int32) (a2 : Int32) (a3 : Int32) (a4 : Int32) (a5 : Int32) (a6 : Int32) (h : mx_H) : g306_113 a1 a2 a3 a4 a5 a6 h = (if a5 ≤ a6 then (g306_150 a3 a4 a5 0 h) else (g306_113 a1 a2 a3 a4 a5 (a6 + 1) (mx_uL h (.inl 166) (Int32.toNatClampNeg a6) (h.2.2.1 (.inl 165) (Int32.toNatClampNeg (((60 * a1) + a2) + a6)))))) := by
  unfold g306_113
  rw [ml_wh_eq]
  simp only [b306, ml_go_ite, ml_go_l, ml_go_r, ml_go_opt, ml_go_let, ml_go_h, ml_go_val]
  try rfl
theorem g306_150_eq (a3 : Int32) (a4 : Int32) (a5 : Int32) (a6 : Int32) (h : mx_H) : g306_150 a3 a4 a5 a6 h = (if a5 ≤ a6 then ((a5 : Int32), h) else (g306_150 a3 a4 a5 (a6 + 1) (mx_uL h (.inl 165) (Int32.toNatClampNeg (((60 * a3) + a4) + a6)) (h.2.2.1 (.inl 166) (Int32.toNatClampNeg a6))))) := by
  unfold g306_150
  rw [ml_wh_eq]
  simp only [b306, ml_go_ite, ml_go_l, ml_go_r, ml_go_opt, ml_go_let, ml_go_h, ml_go_val]
  try rfl
noncomputable def f306 (a1 : Int32) (a2 : Int32) (a3 : Int32) (a4 : Int32) (a5 : Int32) (h : mx_H) : Int32 × mx_H := x_box (if (f300 a1) = 0 then (((-1) : Int32), h) else (if (f300 a3) ≠ 0 then (if (h.2.1 (.inl 163) (Int32.toNatClampNeg a1)) = (-1) then (((-11) : Int32), h) else (if (h.2.1 (.inl 163) (Int32.toNatClampNeg a3)) ≠ (-1) then (if 0 ≤ (h.2.1 (.inl 163) (Int32.toNatClampNeg a1)) then (((-12) : Int32), h) else (if (h.2.1 (.inl 163) (Int32.toNatClampNeg a1)) = (h.2.1 (.inl 163) (Int32.toNatClampNeg a3)) then (if a5 < 0 then (((-13) : Int32), h) else (if a2 < 0 then (((-13) : Int32), h) else (if a4 < 0 then (((-13) : Int32), h) else (if ((h.2.1 (.inl 164) (Int32.toNatClampNeg a1)) - a5) < a2 then (((-13) : Int32), h) else (if a4 ≤ ((h.2.1 (.inl 164) (Int32.toNatClampNeg a3)) - a5) then (g306_113 a1 a2 a3 a4 a5 0 h) else (((-13) : Int32), h)))))) else (((-12) : Int32), h))) else (((-11) : Int32), h))) else (((-1) : Int32), h)))
theorem f306_eq (a1 : Int32) (a2 : Int32) (a3 : Int32) (a4 : Int32) (a5 : Int32) (h : mx_H) : f306 a1 a2 a3 a4 a5 h = (if (f300 a1) = 0 then (((-1) : Int32), h) else (if (f300 a3) ≠ 0 then (if (h.2.1 (.inl 163) (Int32.toNatClampNeg a1)) = (-1) then (((-11) : Int32), h) else (if (h.2.1 (.inl 163) (Int32.toNatClampNeg a3)) ≠ (-1) then (if 0 ≤ (h.2.1 (.inl 163) (Int32.toNatClampNeg a1)) then (((-12) : Int32), h) else (if (h.2.1 (.inl 163) (Int32.toNatClampNeg a1)) = (h.2.1 (.inl 163) (Int32.toNatClampNeg a3)) then (if a5 < 0 then (((-13) : Int32), h) else (if a2 < 0 then (((-13) : Int32), h) else (if a4 < 0 then (((-13) : Int32), h) else (if ((h.2.1 (.inl 164) (Int32.toNatClampNeg a1)) - a5) < a2 then (((-13) : Int32), h) else (if a4 ≤ ((h.2.1 (.inl 164) (Int32.toNatClampNeg a3)) - a5) then (g306_113 a1 a2 a3 a4 a5 0 h) else (((-13) : Int32), h)))))) else (((-12) : Int32), h))) else (((-11) : Int32), h))) else (((-1) : Int32), h))) := x_box_eq _
theorem xw306 {E : mx_Ev} {Q : Option mx_V → mx_H → Prop} : ∀ n : Nat, (∀ (a1 : Int32) (a2 : Int32) (a3 : Int32) (a4 : Int32) (a5 : Int32) (a6 : Int32) (h : mx_H), (xK_i Q) (g306_113 a1 a2 a3 a4 a5 a6 h) → mx_L E n 306 113 [(0, .inr (.inl 105)), (1, .inl (.int a1)), (2, .inl (.int a2)), (3, .inl (.int a3)), (4, .inl (.int a4)), (5, .inl (.int a5)), (6, .inl (.int a6))] [] h Q) ∧ (∀ (a3 : Int32) (a4 : Int32) (a5 : Int32) (a6 : Int32) (h : mx_H), (xK_i Q) (g306_150 a3 a4 a5 a6 h) → mx_L E n 306 150 [(0, .inr (.inl 105)), (3, .inl (.int a3)), (4, .inl (.int a4)), (5, .inl (.int a5)), (6, .inl (.int a6))] [] h Q)
  | 0 => ⟨fun _ _ _ _ _ _ _ _ => mx_L.zero, fun _ _ _ _ _ _ => mx_L.zero⟩
  | n + 1 => ⟨fun a1 a2 a3 a4 a5 a6 h hK => sl306_113 (x_use (x_eq (K := (xK_i Q)) (g306_113_eq a1 a2 a3 a4 a5 a6 h) hK) (fun hK => (x_ite hK (fun hK => ((xw306 n).2 _ _ _ _ _ hK)) (fun hK => (fun _ => (fun _ => ((xw306 n).1 _ _ _ _ _ _ _ hK))))))), fun a3 a4 a5 a6 h hK => sl306_150 (x_use (x_eq (K := (xK_i Q)) (g306_150_eq a3 a4 a5 a6 h) hK) (fun hK => (x_ite hK (fun hK => hK) (fun hK => (fun _ => (fun _ => ((xw306 n).2 _ _ _ _ _ hK)))))))⟩
theorem x306 {E : mx_Ev} {n : Nat} {h : mx_H} {Q : Option mx_V → mx_H → Prop} {a1 : Int32} {a2 : Int32} {a3 : Int32} {a4 : Int32} {a5 : Int32} (hK : (xK_i Q) (f306 a1 a2 a3 a4 a5 h)) : mx_M E n 306 [.inr (.inl 105), .inl (.int a1), .inl (.int a2), .inl (.int a3), .inl (.int a4), .inl (.int a5)] h Q := by
  cases n with
  | zero => exact mx_L.zero
  | succ n => exact sl306_0 (x_use (x_eq (K := (xK_i Q)) (f306_eq a1 a2 a3 a4 a5 h) hK) (fun hK => (x300 (xh_i (x_ite hK (fun hK => hK) (fun hK => (x300 (xh_i (x_ite hK (fun hK => (fun _ => (x_ite hK (fun hK => hK) (fun hK => (fun _ => (x_ite hK (fun hK => (fun _ => (x_ite hK (fun hK => hK) (fun hK => (fun _ => (fun _ => (x_ite hK (fun hK => (x_ite hK (fun hK => hK) (fun hK => (x_ite hK (fun hK => hK) (fun hK => (x_ite hK (fun hK => hK) (fun hK => (fun _ => (x_ite hK (fun hK => hK) (fun hK => (fun _ => (x_ite hK (fun hK => ((xw306 n).1 _ _ _ _ _ _ _ hK)) (fun hK => hK))))))))))))) (fun hK => hK)))))))) (fun hK => hK))))))) (fun hK => hK))))))))))
noncomputable def f307 (a1 : Int32) (a2 : Int32) (h : mx_H) : Int32 := x_box (if (f300 a1) = 0 then ((-1) : Int32) else (if (f173 a2 0 5) ≠ 0 then (if (h.2.1 (.inl 163) (Int32.toNatClampNeg a1)) ≠ (-1) then (if (h.2.1 (.inl 163) (Int32.toNatClampNeg a1)) < 0 then ((-12) : Int32) else (if (f284 (h.2.1 (.inl 116) (Int32.toNatClampNeg (h.2.1 (.inl 163) (Int32.toNatClampNeg a1)))) a2) = 0 then ((-12) : Int32) else (h.2.1 (.inl 116) (Int32.toNatClampNeg (h.2.1 (.inl 163) (Int32.toNatClampNeg a1))) : Int32))) else ((-11) : Int32)) else ((-1) : Int32)))
theorem f307_eq (a1 : Int32) (a2 : Int32) (h : mx_H) : f307 a1 a2 h = (if (f300 a1) = 0 then ((-1) : Int32) else (if (f173 a2 0 5) ≠ 0 then (if (h.2.1 (.inl 163) (Int32.toNatClampNeg a1)) ≠ (-1) then (if (h.2.1 (.inl 163) (Int32.toNatClampNeg a1)) < 0 then ((-12) : Int32) else (if (f284 (h.2.1 (.inl 116) (Int32.toNatClampNeg (h.2.1 (.inl 163) (Int32.toNatClampNeg a1)))) a2) = 0 then ((-12) : Int32) else (h.2.1 (.inl 116) (Int32.toNatClampNeg (h.2.1 (.inl 163) (Int32.toNatClampNeg a1))) : Int32))) else ((-11) : Int32)) else ((-1) : Int32))) := x_box_eq _
theorem x307 {E : mx_Ev} {n : Nat} {h : mx_H} {Q : Option mx_V → mx_H → Prop} {a1 : Int32} {a2 : Int32} (hK : (xK_ip Q h) (f307 a1 a2 h)) : mx_M E n 307 [.inr (.inl 105), .inl (.int a1), .inl (.int a2)] h Q := by
  cases n with
  | zero => exact mx_L.zero
  | succ n => exact sl307_0 (x_use (x_eq (K := (xK_ip Q h)) (f307_eq a1 a2 h) hK) (fun hK => (x300 (xh_i (x_ite hK (fun hK => hK) (fun hK => (x173 (xh_i (x_ite hK (fun hK => (fun _ => (x_ite hK (fun hK => (fun _ => (x_ite hK (fun hK => hK) (fun hK => (fun _ => (fun _ => (x284 (xh_i (x_ite hK (fun hK => hK) (fun hK => (fun _ => (fun _ => hK)))))))))))) (fun hK => hK)))) (fun hK => hK))))))))))
