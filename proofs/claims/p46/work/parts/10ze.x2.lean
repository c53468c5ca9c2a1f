/-! ===== methods as functions (10ze.x2) ===== -/
noncomputable def f108 (a1 : Int32) (a2 : Int32) (a3 : Int32) (h : mx_H) : Int32 × mx_H := x_box (x_opt (f166 a1 h) (fun j3 => (if (f164 j3 a2 h) = 0 then (((-1) : Int32), h) else (if a3 = (-1) then (if a3 ≠ (-1) then (x_val (f61 j3 a2 a3 h) (fun x9 => (if 0 ≤ x9 then (if 1 ≤ ((h.2.1 (.inr (j3, 7)) (Int32.toNatClampNeg x9)) - 1) then (x_let (f170 j3 4 x9 (f65 ((h.2.1 (.inr (j3, 7)) (Int32.toNatClampNeg x9)) - 1) (if ((h.2.1 (.inr (j3, 7)) (Int32.toNatClampNeg x9)) - 1) < (h.2.1 (.inr (j3, 8)) (Int32.toNatClampNeg x9)) then ((h.2.1 (.inr (j3, 7)) (Int32.toNatClampNeg x9)) - 1) else (h.2.1 (.inr (j3, 8)) (Int32.toNatClampNeg x9)))) h) (fun x15 h14 => (((h.2.1 (.inr (j3, 7)) (Int32.toNatClampNeg x9)) - 1 : Int32), h14))) else (((-4) : Int32), h)) else (((-2) : Int32), h)))) else (if 1 < (h.2.1 (.inr (j3, 1)) (Int32.toNatClampNeg a2)) then (x_let (f170 j3 3 a2 ((h.2.1 (.inr (j3, 1)) (Int32.toNatClampNeg a2)) - 1) h) (fun x18 h17 => ((h17.2.1 (.inr (j3, 1)) (Int32.toNatClampNeg a2) : Int32), h17))) else (((-4) : Int32), h))) else (if (f164 j3 a3 h) ≠ 0 then (if a3 ≠ (-1) then (x_val (f61 j3 a2 a3 h) (fun x24 => (if 0 ≤ x24 then (if 1 ≤ ((h.2.1 (.inr (j3, 7)) (Int32.toNatClampNeg x24)) - 1) then (x_let (f170 j3 4 x24 (f65 ((h.2.1 (.inr (j3, 7)) (Int32.toNatClampNeg x24)) - 1) (if ((h.2.1 (.inr (j3, 7)) (Int32.toNatClampNeg x24)) - 1) < (h.2.1 (.inr (j3, 8)) (Int32.toNatClampNeg x24)) then ((h.2.1 (.inr (j3, 7)) (Int32.toNatClampNeg x24)) - 1) else (h.2.1 (.inr (j3, 8)) (Int32.toNatClampNeg x24)))) h) (fun x30 h29 => (((h.2.1 (.inr (j3, 7)) (Int32.toNatClampNeg x24)) - 1 : Int32), h29))) else (((-4) : Int32), h)) else (((-2) : Int32), h)))) else (if 1 < (h.2.1 (.inr (j3, 1)) (Int32.toNatClampNeg a2)) then (x_let (f170 j3 3 a2 ((h.2.1 (.inr (j3, 1)) (Int32.toNatClampNeg a2)) - 1) h) (fun x33 h32 => ((h32.2.1 (.inr (j3, 1)) (Int32.toNatClampNeg a2) : Int32), h32))) else (((-4) : Int32), h))) else (((-1) : Int32), h))))) (((-1) : Int32), h))
theorem f108_eq (a1 : Int32) (a2 : Int32) (a3 : Int32) (h : mx_H) : f108 a1 a2 a3 h = (x_opt (f166 a1 h) (fun j3 => (if (f164 j3 a2 h) = 0 then (((-1) : Int32), h) else (if a3 = (-1) then (if a3 ≠ (-1) then (x_val (f61 j3 a2 a3 h) (fun x9 => (if 0 ≤ x9 then (if 1 ≤ ((h.2.1 (.inr (j3, 7)) (Int32.toNatClampNeg x9)) - 1) then (x_let (f170 j3 4 x9 (f65 ((h.2.1 (.inr (j3, 7)) (Int32.toNatClampNeg x9)) - 1) (if ((h.2.1 (.inr (j3, 7)) (Int32.toNatClampNeg x9)) - 1) < (h.2.1 (.inr (j3, 8)) (Int32.toNatClampNeg x9)) then ((h.2.1 (.inr (j3, 7)) (Int32.toNatClampNeg x9)) - 1) else (h.2.1 (.inr (j3, 8)) (Int32.toNatClampNeg x9)))) h) (fun x15 h14 => (((h.2.1 (.inr (j3, 7)) (Int32.toNatClampNeg x9)) - 1 : Int32), h14))) else (((-4) : Int32), h)) else (((-2) : Int32), h)))) else (if 1 < (h.2.1 (.inr (j3, 1)) (Int32.toNatClampNeg a2)) then (x_let (f170 j3 3 a2 ((h.2.1 (.inr (j3, 1)) (Int32.toNatClampNeg a2)) - 1) h) (fun x18 h17 => ((h17.2.1 (.inr (j3, 1)) (Int32.toNatClampNeg a2) : Int32), h17))) else (((-4) : Int32), h))) else (if (f164 j3 a3 h) ≠ 0 then (if a3 ≠ (-1) then (x_val (f61 j3 a2 a3 h) (fun x24 => (if 0 ≤ x24 then (if 1 ≤ ((h.2.1 (.inr (j3, 7)) (Int32.toNatClampNeg x24)) - 1) then (x_let (f170 j3 4 x24 (f65 ((h.2.1 (.inr (j3, 7)) (Int32.toNatClampNeg x24)) - 1) (if ((h.2.1 (.inr (j3, 7)) (Int32.toNatClampNeg x24)) - 1) < (h.2.1 (.inr (j3, 8)) (Int32.toNatClampNeg x24)) then ((h.2.1 (.inr (j3, 7)) (Int32.toNatClampNeg x24)) - 1) else (h.2.1 (.inr (j3, 8)) (Int32.toNatClampNeg x24)))) h) (fun x30 h29 => (((h.2.1 (.inr (j3, 7)) (Int32.toNatClampNeg x24)) - 1 : Int32), h29))) else (((-4) : Int32), h)) else (((-2) : Int32), h)))) else (if 1 < (h.2.1 (.inr (j3, 1)) (Int32.toNatClampNeg a2)) then (x_let (f170 j3 3 a2 ((h.2.1 (.inr (j3, 1)) (Int32.toNatClampNeg a2)) - 1) h) (fun x33 h32 => ((h32.2.1 (.inr (j3, 1)) (Int32.toNatClampNeg a2) : Int32), h32))) else (((-4) : Int32), h))) else (((-1) : Int32), h))))) (((-1) : Int32), h)) := x_box_eq _
theorem x108 {E : mx_Ev} {n : Nat} {h : mx_H} {Q : Option mx_V → mx_H → Prop} {a1 : Int32} {a2 : Int32} {a3 : Int32} (hK : (xK_i Q) (f108 a1 a2 a3 h)) : mx_M E n 108 [.inr (.inl 0), .inl (.int a1), .inl (.int a2), .inl (.int a3)] h Q := by
  cases n with
  | zero => exact mx_L.zero
  | succ n => exact sl108_0 (x_use (x_eq (K := (xK_i Q)) (f108_eq a1 a2 a3 h) hK) (fun hK => (x166 (x_ov hK (fun j3 hK => (x164 (xh_i (x_ite hK (fun hK => hK) (fun hK => (x_ite hK (fun hK => (x_ite hK (fun hK => (x61 (xh_i (x_valk hK (fun hK => (x_ite hK (fun hK => (fun _ => (x_ite hK (fun hK => (fun _ => (x65 (xh_i (x170 (xh_i (x_letk hK (fun hK => hK)))))))) (fun hK => hK)))) (fun hK => hK))))))) (fun hK => (fun _ => (x_ite hK (fun hK => (fun _ => (x170 (xh_i (x_letk hK (fun hK => (fun _ => hK))))))) (fun hK => hK)))))) (fun hK => (x164 (xh_i (x_ite hK (fun hK => (x_ite hK (fun hK => (x61 (xh_i (x_valk hK (fun hK => (x_ite hK (fun hK => (fun _ => (x_ite hK (fun hK => (fun _ => (x65 (xh_i (x170 (xh_i (x_letk hK (fun hK => hK)))))))) (fun hK => hK)))) (fun hK => hK))))))) (fun hK => (fun _ => (x_ite hK (fun hK => (fun _ => (x170 (xh_i (x_letk hK (fun hK => (fun _ => hK))))))) (fun hK => hK)))))) (fun hK => hK))))))))))) (fun hK => (x164_null (xh_i ⟨fun _ => hK, fun q => absurd (f164_null_eq _ _) q⟩)))))))
noncomputable def f158 (a0 : Int32) : Int32 := x_box (if (f157 a0 1 999) = 0 then (0 : Int32) else (if (a0 - a0 / 10 * 10) = 0 then (0 : Int32) else (1 : Int32)))
noncomputable def f109 (a1 : Int32) (a2 : Int32) (a3 : Int32) (h : mx_H) : Int32 × mx_H := x_box (x_opt (f166 a1 h) (fun j3 => (if (f158 a2) = 0 then (((-1) : Int32), h) else (if (f157 a3 0 1) ≠ 0 then (x_h (f22 0 j3 h) (fun h11 => (if a3 ≠ 0 then (x_let (f32 0 (a2 / 10) (a2 - a2 / 10 * 10) h11) (fun x14 h13 => ((x14 : Int32), h13))) else (x_let (f31 0 (a2 / 10) (a2 - a2 / 10 * 10) h11) (fun x17 h16 => ((x17 : Int32), h16)))))) else (((-1) : Int32), h)))) (((-1) : Int32), h))
noncomputable def f110 (a1 : Int32) (a2 : Int32) (a3 : Int32) (h : mx_H) : Int64 × mx_H := x_box (x_opt (f166 a1 h) (fun j3 => (if (f158 a2) = 0 then (((-9223372036854775808) : Int64), h) else (if (f157 a3 0 (f60 j3 h)) ≠ 0 then (x_h (f22 0 j3 h) (fun h14 => (x_h (f29 0 (a2 / 10) (a2 - a2 / 10 * 10) h14) (fun h16 => ((h16.2.2.1 (.inr (0, 35)) (Int32.toNatClampNeg a3) : Int64), h16))))) else (((-9223372036854775808) : Int64), h)))) (((-9223372036854775808) : Int64), h))
noncomputable def f165 (a0 : Nat) (a1 : Int32) (a2 : Int32) (h : mx_H) : Int32 := x_box (if (f157 a1 0 ((f60 a0 h) - 1)) = 0 then (0 : Int32) else (if (f157 a2 1 9) = 0 then (0 : Int32) else (1 : Int32)))
theorem f165_eq (a0 : Nat) (a1 : Int32) (a2 : Int32) (h : mx_H) : f165 a0 a1 a2 h = (if (f157 a1 0 ((f60 a0 h) - 1)) = 0 then (0 : Int32) else (if (f157 a2 1 9) = 0 then (0 : Int32) else (1 : Int32))) := x_box_eq _
theorem x165 {E : mx_Ev} {n : Nat} {h : mx_H} {Q : Option mx_V → mx_H → Prop} {a0 : Nat} {a1 : Int32} {a2 : Int32} (hK : (xK_ip Q h) (f165 a0 a1 a2 h)) : mx_M E n 165 [.inr (.inr (a0, 0)), .inl (.int a1), .inl (.int a2)] h Q := by
  cases n with
  | zero => exact mx_L.zero
  | succ n => exact sl165_0 (x_use (x_eq (K := (xK_ip Q h)) (f165_eq a0 a1 a2 h) hK) (fun hK => (x60 (xh_i (x157 (xh_i (x_ite hK (fun hK => (fun _ => hK)) (fun hK => (x157 (xh_i (x_ite hK (fun hK => (fun _ => hK)) (fun hK => (fun _ => hK)))))))))))))
noncomputable def f165_null (a1 : Int32) (a2 : Int32) (h : mx_H) : Int32 := x_box (0 : Int32)
theorem f165_null_eq (a1 : Int32) (a2 : Int32) (h : mx_H) : f165_null a1 a2 h = (0 : Int32) := x_box_eq _
theorem x165_null {E : mx_Ev} {n : Nat} {h : mx_H} {Q : Option mx_V → mx_H → Prop} {a1 : Int32} {a2 : Int32} (hK : (xK_ip Q h) (f165_null a1 a2 h)) : mx_M E n 165 [.inl .null, .inl (.int a1), .inl (.int a2)] h Q := by
  cases n with
  | zero => exact mx_L.zero
  | succ n => exact sl165_null_0 (x_use (x_eq (K := (xK_ip Q h)) (f165_null_eq a1 a2 h) hK) (fun hK => (fun _ => hK)))
noncomputable def f111 (a1 : Int32) (a2 : Int32) (a3 : Int32) (h : mx_H) : Int32 × mx_H := x_box (x_opt (f166 a1 h) (fun j3 => (if (f165 j3 a2 a3 h) ≠ 0 then (x_h (f22 0 j3 h) (fun h8 => (x_let (f33 0 a2 a3 h8) (fun x11 h10 => ((x11 : Int32), h10))))) else (((-1) : Int32), h))) (((-1) : Int32), h))
theorem f111_eq (a1 : Int32) (a2 : Int32) (a3 : Int32) (h : mx_H) : f111 a1 a2 a3 h = (x_opt (f166 a1 h) (fun j3 => (if (f165 j3 a2 a3 h) ≠ 0 then (x_h (f22 0 j3 h) (fun h8 => (x_let (f33 0 a2 a3 h8) (fun x11 h10 => ((x11 : Int32), h10))))) else (((-1) : Int32), h))) (((-1) : Int32), h)) := x_box_eq _
theorem x111 {E : mx_Ev} {n : Nat} {h : mx_H} {Q : Option mx_V → mx_H → Prop} {a1 : Int32} {a2 : Int32} {a3 : Int32} (hK : (xK_i Q) (f111 a1 a2 a3 h)) : mx_M E n 111 [.inr (.inl 0), .inl (.int a1), .inl (.int a2), .inl (.int a3)] h Q := by
  cases n with
  | zero => exact mx_L.zero
  | succ n => exact sl111_0 (x_use (x_eq (K := (xK_i Q)) (f111_eq a1 a2 a3 h) hK) (fun hK => (x166 (x_ov hK (fun j3 hK => (x165 (xh_i (x_ite hK (fun hK => (x22 (xh_n (x_hk hK (fun hK => (x33 (xh_i (x_letk hK (fun hK => hK))))))))) (fun hK => hK))))) (fun hK => (x165_null (xh_i ⟨fun q => absurd (f165_null_eq _ _ _) q, fun _ => hK⟩)))))))
noncomputable def f112 (a1 : Int32) (a2 : Int32) (a3 : Int32) (h : mx_H) : Int32 × mx_H := x_box (x_opt (f166 a1 h) (fun j3 => (if (f164 j3 a2 h) = 0 then (((-1) : Int32), h) else (if (f158 a3) = 0 then (((-1) : Int32), h) else (if (h.2.1 (.inr (j3, 4)) (Int32.toNatClampNeg a2)) = 0 then (x_h (f22 0 j3 h) (fun h11 => (x_let (f32 0 (a3 / 10) (a3 - a3 / 10 * 10) h11) (fun x14 h13 => (if x14 ≤ 0 then ((0 : Int32), mx_uI h13 (.inr (0, 33)) (Int32.toNatClampNeg a2) 1) else (x_let (f32 0 (a3 / 10) (a3 - a3 / 10 * 10) (mx_uI h13 (.inr (0, 33)) (Int32.toNatClampNeg a2) 1)) (fun x17 h16 => (if x17 < x14 then ((0 : Int32), h16) else ((1 : Int32), h16))))))))) else (((-1) : Int32), h))))) (((-1) : Int32), h))
noncomputable def b113 : ((Int32 × Nat × Int32 × Int32 × Int32 × mx_H)) → ((Int32 × Nat × Int32 × Int32 × Int32 × mx_H)) ⊕ (Int32 × mx_H)
  | (a3, a5, a7, a8, a9, h) => (if (f60 a5 h) ≤ a9 then (Sum.inr ((a8 : Int32), h)) else (x_let (f33 0 a9 a3 h) (fun x6 h5 => (if x6 ≠ a7 then (Sum.inl (a3, a5, a7, a8, (a9 + 1), h5)) else (x_let (f33 1 a9 a3 h5) (fun x9 h8 => (if x9 = a7 then (Sum.inl (a3, a5, a7, a8, (a9 + 1), h8)) else (Sum.inl (a3, a5, a7, (a8 + 1), (a9 + 1), h8)))))))))
noncomputable def g113_134 (a3 : Int32) (a5 : Nat) (a7 : Int32) (a8 : Int32) (a9 : Int32) (h : mx_H) : Int32 × mx_H := ml_wh b113 (a3, a5, a7, a8, a9, h)
noncomputable def f113 (a1 : Int32) (a2 : Int32) (a3 : Int32) (a4 : Int32) (h : mx_H) : Int32 × mx_H := x_box (x_opt (f166 a1 h) (fun j3 => (if (f165 j3 a2 a3 h) = 0 then (((-1) : Int32), h) else (if a4 < 0 then (((-1) : Int32), h) else (if (a4 - a4 / 10 * 10) = 0 then (((-1) : Int32), h) else (if (f164 j3 (a4 / 10) h) ≠ 0 then (if (h.2.1 (.inr (j3, 4)) (Int32.toNatClampNeg (a4 / 10))) ≠ 0 then (((-4) : Int32), h) else (if (h.2.1 (.inr (j3, 3)) (Int32.toNatClampNeg (a4 / 10))) = 0 then (x_h (f22 0 j3 h) (fun h11 => (x_h (f22 1 j3 h11) (fun h13 => (x_h (f25 1 (a4 / 10) (h13.2.1 (.inr (j3, 1)) (Int32.toNatClampNeg (a4 / 10))) (a4 - a4 / 10 * 10) h13) (fun h15 => (x_let (f33 0 a2 a3 h15) (fun x18 h17 => (g113_134 a3 j3 x18 0 0 h17))))))))) else (((-4) : Int32), h))) else (((-1) : Int32), h)))))) (((-1) : Int32), h))
noncomputable def f114 (a1 : Int32) (a2 : Int32) (a3 : Int32) (a4 : Int32) (a5 : Int32) (h : mx_H) : Int32 × mx_H := x_box (x_opt (f166 a1 h) (fun j3 => (if (f165 j3 a2 a3 h) = 0 then (((-1) : Int32), h) else (if (f157 a4 0 8) = 0 then (((-1) : Int32), h) else (if (f157 a5 0 1) ≠ 0 then (if a5 ≠ 0 then (x_h (f23 0 j3 a4 h) (fun h14 => (x_let (f33 0 a2 a3 h14) (fun x17 h16 => ((x17 : Int32), h16))))) else (x_h (f23 0 j3 (-a4) h) (fun h19 => (x_let (f33 0 a2 a3 h19) (fun x22 h21 => ((x22 : Int32), h21)))))) else (((-1) : Int32), h))))) (((-1) : Int32), h))
theorem f114_eq (a1 : Int32) (a2 : Int32) (a3 : Int32) (a4 : Int32) (a5 : Int32) (h : mx_H) : f114 a1 a2 a3 a4 a5 h = (x_opt (f166 a1 h) (fun j3 => (if (f165 j3 a2 a3 h) = 0 then (((-1) : Int32), h) else (if (f157 a4 0 8) = 0 then (((-1) : Int32), h) else (if (f157 a5 0 1) ≠ 0 then (if a5 ≠ 0 then (x_h (f23 0 j3 a4 h) (fun h14 => (x_let (f33 0 a2 a3 h14) (fun x17 h16 => ((x17 : Int32), h16))))) else (x_h (f23 0 j3 (-a4) h) (fun h19 => (x_let (f33 0 a2 a3 h19) (fun x22 h21 => ((x22 : Int32), h21)))))) else (((-1) : Int32), h))))) (((-1) : Int32), h)) := x_box_eq _
theorem x114 {E : mx_Ev} {n : Nat} {h : mx_H} {Q : Option mx_V → mx_H → Prop} {a1 : Int32} {a2 : Int32} {a3 : Int32} {a4 : Int32} {a5 : Int32} (hK : (xK_i Q) (f114 a1 a2 a3 a4 a5 h)) : mx_M E n 114 [.inr (.inl 0), .inl (.int a1), .inl (.int a2), .inl (.int a3), .inl (.int a4), .inl (.int a5)] h Q := by
  cases n with
  | zero => exact mx_L.zero
  | succ n => exact sl114_0 (x_use (x_eq (K := (xK_i Q)) (f114_eq a1 a2 a3 a4 a5 h) hK) (fun hK => (x166 (x_ov hK (fun j3 hK => (x165 (xh_i (x_ite hK (fun hK => hK) (fun hK => (x157 (xh_i (x_ite hK (fun hK => hK) (fun hK => (x157 (xh_i (x_ite hK (fun hK => (x_ite hK (fun hK => (x23 (xh_n (x_hk hK (fun hK => (x33 (xh_i (x_letk hK (fun hK => hK))))))))) (fun hK => (x23 (xh_n (x_hk hK (fun hK => (x33 (xh_i (x_letk hK (fun hK => hK))))))))))) (fun hK => hK))))))))))))) (fun hK => (x165_null (xh_i ⟨fun _ => hK, fun q => absurd (f165_null_eq _ _ _) q⟩)))))))
noncomputable def b115 : ((Int32 × Int32 × Int32 × Nat × Int32 × Int32 × Int32 × Int32 × mx_H)) → ((Int32 × Int32 × Int32 × Nat × Int32 × Int32 × Int32 × Int32 × mx_H)) ⊕ (Int32 × mx_H)
  | (a2, a3, a4, a5, a6, a7, a8, a9, h) => (if (h.2.1 (.inr (a5, 0)) 6) ≤ a9 then (if a4 ≠ 0 then (Sum.inr ((if a7 < 0 then 0 else a7 : Int32), h)) else (Sum.inr ((a8 : Int32), h))) else (x_h (f26 0 (h.2.1 (.inr (a5, 5)) (Int32.toNatClampNeg a9)) (h.2.1 (.inr (a5, 6)) (Int32.toNatClampNeg a9)) 0 h) (fun h2 => (x_let (f33 0 a2 a3 h2) (fun x5 h4 => (x_h (f26 0 (h4.2.1 (.inr (a5, 5)) (Int32.toNatClampNeg a9)) (h4.2.1 (.inr (a5, 6)) (Int32.toNatClampNeg a9)) (f62 a5 a9 h4) h4) (fun h10 => (if (a6 - x5) ≤ a7 then (Sum.inl (a2, a3, a4, a5, a6, a7, a8, (a9 + 1), h10)) else (Sum.inl (a2, a3, a4, a5, a6, (a6 - x5), ((h10.2.1 (.inr (a5, 0)) 5) + a9), (a9 + 1), h10))))))))))
noncomputable def g115_59 (a2 : Int32) (a3 : Int32) (a4 : Int32) (a5 : Nat) (a6 : Int32) (a7 : Int32) (a8 : Int32) (a9 : Int32) (h : mx_H) : Int32 × mx_H := ml_wh b115 (a2, a3, a4, a5, a6, a7, a8, a9, h)
noncomputable def f115 (a1 : Int32) (a2 : Int32) (a3 : Int32) (a4 : Int32) (h : mx_H) : Int32 × mx_H := x_box (x_opt (f166 a1 h) (fun j3 => (if (f165 j3 a2 a3 h) = 0 then (((-1) : Int32), h) else (if (f157 a4 0 1) ≠ 0 then (x_h (f22 0 j3 h) (fun h11 => (x_let (f33 0 a2 a3 h11) (fun x14 h13 => (g115_59 a2 a3 a4 j3 x14 (-1) (-2) 0 h13))))) else (((-1) : Int32), h)))) (((-1) : Int32), h))
noncomputable def b120 : ((Int32 × Int32 × Int32 × Int32 × Nat × mx_H) ⊕ (mx_H) ⊕ (Int32 × Int32 × Int32 × Int32 × Nat × mx_H)) → ((Int32 × Int32 × Int32 × Int32 × Nat × mx_H) ⊕ (mx_H) ⊕ (Int32 × Int32 × Int32 × Int32 × Nat × mx_H)) ⊕ (Int32 × mx_H)
  | (.inl (a1, a2, a3, a4, a5, h)) => (if (f157 a4 1 3) ≠ 0 then (if (h.2.1 (.inl 60) 1) ≤ 0 then (Sum.inl (.inr (.inr (a1, a2, a3, a4, a5, h)))) else (if (h.2.1 (.inl 60) 0) = a1 then (Sum.inl (.inr (.inr (a1, a2, a3, a4, a5, h)))) else (Sum.inr (((-1) : Int32), h)))) else (Sum.inl (.inr (.inl h))))
  | (.inr (.inl h)) => (Sum.inr (((-1) : Int32), h))
  | (.inr (.inr (a1, a2, a3, a4, a5, h))) => (if a3 ≠ (-1) then (if a3 ≠ (-1) then (x_val (f61 a5 a2 a3 h) (fun x3 => (if 0 ≤ x3 then (if (f43 4 x3 h) = 0 then (if (h.2.1 (.inl 60) 1) < 6 then (x_h (f44 4 x3 a4 (mx_uI h (.inl 60) 0 a1)) (fun h8 => (Sum.inr ((h8.2.1 (.inl 60) 1 : Int32), h8)))) else (Sum.inr (((-3) : Int32), h))) else (Sum.inr (((-1) : Int32), h))) else (Sum.inr (((-2) : Int32), h))))) else (if 0 ≤ a2 then (if (f43 4 a2 h) = 0 then (if (h.2.1 (.inl 60) 1) < 6 then (x_h (f44 4 a2 a4 (mx_uI h (.inl 60) 0 a1)) (fun h13 => (Sum.inr ((h13.2.1 (.inl 60) 1 : Int32), h13)))) else (Sum.inr (((-3) : Int32), h))) else (Sum.inr (((-1) : Int32), h))) else (Sum.inr (((-2) : Int32), h)))) else (if a3 ≠ (-1) then (x_val (f61 a5 a2 a3 h) (fun x16 => (if 0 ≤ x16 then (if (f43 3 x16 h) = 0 then (if (h.2.1 (.inl 60) 1) < 6 then (x_h (f44 3 x16 a4 (mx_uI h (.inl 60) 0 a1)) (fun h21 => (Sum.inr ((h21.2.1 (.inl 60) 1 : Int32), h21)))) else (Sum.inr (((-3) : Int32), h))) else (Sum.inr (((-1) : Int32), h))) else (Sum.inr (((-2) : Int32), h))))) else (if 0 ≤ a2 then (if (f43 3 a2 h) = 0 then (if (h.2.1 (.inl 60) 1) < 6 then (x_h (f44 3 a2 a4 (mx_uI h (.inl 60) 0 a1)) (fun h26 => (Sum.inr ((h26.2.1 (.inl 60) 1 : Int32), h26)))) else (Sum.inr (((-3) : Int32), h))) else (Sum.inr (((-1) : Int32), h))) else (Sum.inr (((-2) : Int32), h)))))
noncomputable def g120_30 (a1 : Int32) (a2 : Int32) (a3 : Int32) (a4 : Int32) (a5 : Nat) (h : mx_H) : Int32 × mx_H := ml_wh b120 (.inl (a1, a2, a3, a4, a5, h))
noncomputable def g120_40  (h : mx_H) : Int32 × mx_H := ml_wh b120 (.inr (.inl h))
noncomputable def g120_65 (a1 : Int32) (a2 : Int32) (a3 : Int32) (a4 : Int32) (a5 : Nat) (h : mx_H) : Int32 × mx_H := ml_wh b120 (.inr (.inr (a1, a2, a3, a4, a5, h)))
theorem g120_30_eq (a1 : Int32) (a2 : Int32) (a3 : Int32) (a4 : Int32) (a5 : Nat) (h : mx_H) : g120_30 a1 a2 a3 a4 a5 h = (if (f157 a4 1 3) ≠ 0 then (if (h.2.1 (.inl 60) 1) ≤ 0 then (g120_65 a1 a2 a3 a4 a5 h) else (if (h.2.1 (.inl 60) 0) = a1 then (g120_65 a1 a2 a3 a4 a5 h) else (((-1) : Int32), h))) else (g120_40  h)) := by
  unfold g120_30
  rw [ml_wh_eq]
  simp only [b120, ml_go_ite, ml_go_l, ml_go_r, ml_go_opt, ml_go_let, ml_go_h, ml_go_val]
  try rfl
theorem g120_40_eq  (h : mx_H) : g120_40  h = (((-1) : Int32), h) := by
  unfold g120_40
  rw [ml_wh_eq]
  simp only [b120, ml_go_ite, ml_go_l, ml_go_r, ml_go_opt, ml_go_let, ml_go_h, ml_go_val]
  try rfl
theorem g120_65_eq (a1 : Int32) (a2 : Int32) (a3 : Int32) (a4 : Int32) (a5 : Nat) (h : mx_H) : g120_65 a1 a2 a3 a4 a5 h = (if a3 ≠ (-1) then (if a3 ≠ (-1) then (x_val (f61 a5 a2 a3 h) (fun x3 => (if 0 ≤ x3 then (if (f43 4 x3 h) = 0 then (if (h.2.1 (.inl 60) 1) < 6 then (x_h (f44 4 x3 a4 (mx_uI h (.inl 60) 0 a1)) (fun h8 => ((h8.2.1 (.inl 60) 1 : Int32), h8))) else (((-3) : Int32), h)) else (((-1) : Int32), h)) else (((-2) : Int32), h)))) else (if 0 ≤ a2 then (if (f43 4 a2 h) = 0 then (if (h.2.1 (.inl 60) 1) < 6 then (x_h (f44 4 a2 a4 (mx_uI h (.inl 60) 0 a1)) (fun h13 => ((h13.2.1 (.inl 60) 1 : Int32), h13))) else (((-3) : Int32), h)) else (((-1) : Int32), h)) else (((-2) : Int32), h))) else (if a3 ≠ (-1) then (x_val (f61 a5 a2 a3 h) (fun x16 => (if 0 ≤ x16 then (if (f43 3 x16 h) = 0 then (if (h.2.1 (.inl 60) 1) < 6 then (x_h (f44 3 x16 a4 (mx_uI h (.inl 60) 0 a1)) (fun h21 => ((h21.2.1 (.inl 60) 1 : Int32), h21))) else (((-3) : Int32), h)) else (((-1) : Int32), h)) else (((-2) : Int32), h)))) else (if 0 ≤ a2 then (if (f43 3 a2 h) = 0 then (if (h.2.1 (.inl 60) 1) < 6 then (x_h (f44 3 a2 a4 (mx_uI h (.inl 60) 0 a1)) (fun h26 => ((h26.2.1 (.inl 60) 1 : Int32), h26))) else (((-3) : Int32), h)) else (((-1) : Int32), h)) else (((-2) : Int32), h)))) := by
  unfold g120_65
  rw [ml_wh_eq]
  simp only [b120, ml_go_ite, ml_go_l, ml_go_r, ml_go_opt, ml_go_let, ml_go_h, ml_go_val]
  try rfl
noncomputable def f120 (a1 : Int32) (a2 : Int32) (a3 : Int32) (a4 : Int32) (h : mx_H) : Int32 × mx_H := x_box (x_opt (f166 a1 h) (fun j3 => (if (f164 j3 a2 h) = 0 then (g120_40  h) else (if a3 = (-1) then (g120_30 a1 a2 a3 a4 j3 h) else (if (f164 j3 a3 h) = 0 then (g120_40  h) else (g120_30 a1 a2 a3 a4 j3 h))))) (g120_40  h))
theorem f120_eq (a1 : Int32) (a2 : Int32) (a3 : Int32) (a4 : Int32) (h : mx_H) : f120 a1 a2 a3 a4 h = (x_opt (f166 a1 h) (fun j3 => (if (f164 j3 a2 h) = 0 then (g120_40  h) else (if a3 = (-1) then (g120_30 a1 a2 a3 a4 j3 h) else (if (f164 j3 a3 h) = 0 then (g120_40  h) else (g120_30 a1 a2 a3 a4 j3 h))))) (g120_40  h)) := x_box_eq _
theorem xw120 {E : mx_Ev} {Q : Option mx_V → mx_H → Prop} : ∀ n : Nat, (∀ (a1 : Int32) (a2 : Int32) (a3 : Int32) (a4 : Int32) (a5 : Nat) (h : mx_H), (xK_i Q) (g120_30 a1 a2 a3 a4 a5 h) → mx_L E n 120 30 [(0, .inr (.inl 0)), (1, .inl (.int a1)), (2, .inl (.int a2)), (3, .inl (.int a3)), (4, .inl (.int a4)), (5, .inr (.inr (a5, 0)))] [] h Q) ∧ (∀ (h : mx_H), (xK_i Q) (g120_40  h) → mx_L E n 120 40 [] [] h Q) ∧ (∀ (a1 : Int32) (a2 : Int32) (a3 : Int32) (a4 : Int32) (a5 : Nat) (h : mx_H), (xK_i Q) (g120_65 a1 a2 a3 a4 a5 h) → mx_L E n 120 65 [(0, .inr (.inl 0)), (1, .inl (.int a1)), (2, .inl (.int a2)), (3, .inl (.int a3)), (4, .inl (.int a4)), (5, .inr (.inr (a5, 0)))] [] h Q)
  | 0 => ⟨fun _ _ _ _ _ _ _ => mx_L.zero, fun _ _ => mx_L.zero, fun _ _ _ _ _ _ _ => mx_L.zero⟩
  | n + 1 => ⟨fun a1 a2 a3 a4 a5 h hK => sl120_30 (x_use (x_eq (K := (xK_i Q)) (g120_30_eq a1 a2 a3 a4 a5 h) hK) (fun hK => (x157 (xh_i (x_ite hK (fun hK => (x_ite hK (fun hK => ((xw120 n).2.2 _ _ _ _ _ _ hK)) (fun hK => (x_ite hK (fun hK => ((xw120 n).2.2 _ _ _ _ _ _ hK)) (fun hK => hK))))) (fun hK => ((xw120 n).2.1 _ hK))))))), fun h hK => sl120_40 (x_use (x_eq (K := (xK_i Q)) (g120_40_eq  h) hK) (fun hK => hK)), fun a1 a2 a3 a4 a5 h hK => sl120_65 (x_use (x_eq (K := (xK_i Q)) (g120_65_eq a1 a2 a3 a4 a5 h) hK) (fun hK => (x_ite hK (fun hK => (x_ite hK (fun hK => (x61 (xh_i (x_valk hK (fun hK => (x_ite hK (fun hK => (x43 (xh_i (x_ite hK (fun hK => (x_ite hK (fun hK => (x44 (xh_n (x_hk hK (fun hK => hK))))) (fun hK => hK))) (fun hK => hK))))) (fun hK => hK))))))) (fun hK => (x_ite hK (fun hK => (x43 (xh_i (x_ite hK (fun hK => (x_ite hK (fun hK => (x44 (xh_n (x_hk hK (fun hK => hK))))) (fun hK => hK))) (fun hK => hK))))) (fun hK => hK))))) (fun hK => (x_ite hK (fun hK => (x61 (xh_i (x_valk hK (fun hK => (x_ite hK (fun hK => (x43 (xh_i (x_ite hK (fun hK => (x_ite hK (fun hK => (x44 (xh_n (x_hk hK (fun hK => hK))))) (fun hK => hK))) (fun hK => hK))))) (fun hK => hK))))))) (fun hK => (x_ite hK (fun hK => (x43 (xh_i (x_ite hK (fun hK => (x_ite hK (fun hK => (x44 (xh_n (x_hk hK (fun hK => hK))))) (fun hK => hK))) (fun hK => hK))))) (fun hK => hK))))))))⟩
theorem x120 {E : mx_Ev} {n : Nat} {h : mx_H} {Q : Option mx_V → mx_H → Prop} {a1 : Int32} {a2 : Int32} {a3 : Int32} {a4 : Int32} (hK : (xK_i Q) (f120 a1 a2 a3 a4 h)) : mx_M E n 120 [.inr (.inl 0), .inl (.int a1), .inl (.int a2), .inl (.int a3), .inl (.int a4)] h Q := by
  cases n with
  | zero => exact mx_L.zero
  | succ n => exact sl120_0 (x_use (x_eq (K := (xK_i Q)) (f120_eq a1 a2 a3 a4 h) hK) (fun hK => (x166 (x_ov hK (fun j3 hK => (x164 (xh_i (x_ite hK (fun hK => ((xw120 n).2.1 _ hK)) (fun hK => (x_ite hK (fun hK => ((xw120 n).1 _ _ _ _ _ _ hK)) (fun hK => (x164 (xh_i (x_ite hK (fun hK => ((xw120 n).2.1 _ hK)) (fun hK => ((xw120 n).1 _ _ _ _ _ _ hK)))))))))))) (fun hK => (x164_null (xh_i ⟨fun _ => ((xw120 n).2.1 _ hK), fun q => absurd (f164_null_eq _ _) q⟩)))))))
noncomputable def f167  (h : mx_H) : Option Nat := x_box (if (h.2.1 (.inl 60) 1) ≤ 0 then none else (x_opt (f166 (h.2.1 (.inl 60) 0) h) (fun j3 => (some j3)) none))
theorem f167_eq  (h : mx_H) : f167  h = (if (h.2.1 (.inl 60) 1) ≤ 0 then none else (x_opt (f166 (h.2.1 (.inl 60) 0) h) (fun j3 => (some j3)) none)) := x_box_eq _
theorem x167 {E : mx_Ev} {n : Nat} {h : mx_H} {Q : Option mx_V → mx_H → Prop} (hK : (xK_op Q h) (f167  h)) : mx_M E n 167 [.inr (.inl 0)] h Q := by
  cases n with
  | zero => exact mx_L.zero
  | succ n => exact sl167_0 (x_use (x_eq (K := (xK_op Q h)) (f167_eq  h) hK) (fun hK => (x_ite hK (fun hK => hK) (fun hK => (x166 (x_ov hK (fun j3 hK => hK) (fun hK => hK)))))))
noncomputable def f121 (a1 : Int32) (a2 : Int32) (a3 : Int32) (h : mx_H) : Int32 × mx_H := x_box (if (f157 a1 0 5) = 0 then (((-1) : Int32), h) else (if (f157 a2 1 9) = 0 then (((-1) : Int32), h) else (if (f157 a3 0 99) ≠ 0 then (x_opt (f167 h) (fun j12 => (if (f60 j12 h) ≤ a1 then (((-1) : Int32), h) else (if (f45 a1 a2 h) = 0 then (if (h.2.1 (.inl 60) 5) < 6 then (x_h (f46 a1 a2 a3 h) (fun h20 => ((h20.2.1 (.inl 60) 5 : Int32), h20))) else (((-3) : Int32), h)) else (((-1) : Int32), h)))) (((-4) : Int32), h)) else (((-1) : Int32), h))))
theorem f121_eq (a1 : Int32) (a2 : Int32) (a3 : Int32) (h : mx_H) : f121 a1 a2 a3 h = (if (f157 a1 0 5) = 0 then (((-1) : Int32), h) else (if (f157 a2 1 9) = 0 then (((-1) : Int32), h) else (if (f157 a3 0 99) ≠ 0 then (x_opt (f167 h) (fun j12 => (if (f60 j12 h) ≤ a1 then (((-1) : Int32), h) else (if (f45 a1 a2 h) = 0 then (if (h.2.1 (.inl 60) 5) < 6 then (x_h (f46 a1 a2 a3 h) (fun h20 => ((h20.2.1 (.inl 60) 5 : Int32), h20))) else (((-3) : Int32), h)) else (((-1) : Int32), h)))) (((-4) : Int32), h)) else (((-1) : Int32), h)))) := x_box_eq _
theorem x121 {E : mx_Ev} {n : Nat} {h : mx_H} {Q : Option mx_V → mx_H → Prop} {a1 : Int32} {a2 : Int32} {a3 : Int32} (hK : (xK_i Q) (f121 a1 a2 a3 h)) : mx_M E n 121 [.inr (.inl 0), .inl (.int a1), .inl (.int a2), .inl (.int a3)] h Q := by
  cases n with
  | zero => exact mx_L.zero
  | succ n => exact sl121_0 (x_use (x_eq (K := (xK_i Q)) (f121_eq a1 a2 a3 h) hK) (fun hK => (x157 (xh_i (x_ite hK (fun hK => hK) (fun hK => (x157 (xh_i (x_ite hK (fun hK => hK) (fun hK => (x157 (xh_i (x_ite hK (fun hK => (x167 (x_ov hK (fun j12 hK => (x60 (xh_i (x_ite hK (fun hK => hK) (fun hK => (x45 (xh_i (x_ite hK (fun hK => (x_ite hK (fun hK => (x46 (xh_n (x_hk hK (fun hK => hK))))) (fun hK => hK))) (fun hK => hK))))))))) (fun hK => hK)))) (fun hK => hK))))))))))))))
noncomputable def f124  (h : mx_H) : Int32 × mx_H := x_box ((h.2.1 (.inl 60) 1 : Int32), mx_uI (mx_uI h (.inl 60) 1 0) (.inl 60) 5 0)
theorem f124_eq  (h : mx_H) : f124  h = ((h.2.1 (.inl 60) 1 : Int32), mx_uI (mx_uI h (.inl 60) 1 0) (.inl 60) 5 0) := x_box_eq _
theorem x124 {E : mx_Ev} {n : Nat} {h : mx_H} {Q : Option mx_V → mx_H → Prop} (hK : (xK_i Q) (f124  h)) : mx_M E n 124 [.inr (.inl 0)] h Q := by
  cases n with
  | zero => exact mx_L.zero
  | succ n => exact sl124_0 (x_use (x_eq (K := (xK_i Q)) (f124_eq  h) hK) (fun hK => hK))
noncomputable def f125 (a1 : Int32) (h : mx_H) : Int32 × mx_H := x_box (if (f157 a1 0 99) ≠ 0 then (if (h.2.1 (.inl 68) 0) < 6 then (x_h (f12 a1 h) (fun h5 => ((h5.2.1 (.inl 68) 0 : Int32), h5))) else (((-3) : Int32), h)) else (((-1) : Int32), h))
noncomputable def f126 (a1 : Int32) (a2 : Int32) (a3 : Int32) (h : mx_H) : Int32 × mx_H := x_box (x_opt (f166 a1 h) (fun j3 => (if (f157 a2 1 9) = 0 then (((-1) : Int32), h) else (if (f157 a3 0 2) ≠ 0 then (if (h.2.1 (.inl 68) 0) ≤ (f60 j3 h) then (x_h (f13 j3 0 a2 h) (fun h14 => (if a3 ≠ 0 then (if (h14.2.1 (.inl 68) 2) ≠ 0 then (if a3 ≠ 2 then (if 0 ≤ (h14.2.1 (.inl 68) 3) then (((h14.2.1 (.inr (j3, 0)) 5) + (h14.2.1 (.inl 68) 3) : Int32), h14) else (((-1) : Int32), h14)) else ((h14.2.1 (.inl 68) 4 : Int32), h14)) else (((-2) : Int32), h14)) else ((h14.2.1 (.inl 68) 2 : Int32), h14)))) else (((-1) : Int32), h)) else (((-1) : Int32), h)))) (((-1) : Int32), h))
theorem f126_eq (a1 : Int32) (a2 : Int32) (a3 : Int32) (h : mx_H) : f126 a1 a2 a3 h = (x_opt (f166 a1 h) (fun j3 => (if (f157 a2 1 9) = 0 then (((-1) : Int32), h) else (if (f157 a3 0 2) ≠ 0 then (if (h.2.1 (.inl 68) 0) ≤ (f60 j3 h) then (x_h (f13 j3 0 a2 h) (fun h14 => (if a3 ≠ 0 then (if (h14.2.1 (.inl 68) 2) ≠ 0 then (if a3 ≠ 2 then (if 0 ≤ (h14.2.1 (.inl 68) 3) then (((h14.2.1 (.inr (j3, 0)) 5) + (h14.2.1 (.inl 68) 3) : Int32), h14) else (((-1) : Int32), h14)) else ((h14.2.1 (.inl 68) 4 : Int32), h14)) else (((-2) : Int32), h14)) else ((h14.2.1 (.inl 68) 2 : Int32), h14)))) else (((-1) : Int32), h)) else (((-1) : Int32), h)))) (((-1) : Int32), h)) := x_box_eq _
theorem x126 {E : mx_Ev} {n : Nat} {h : mx_H} {Q : Option mx_V → mx_H → Prop} {a1 : Int32} {a2 : Int32} {a3 : Int32} (hK : (xK_i Q) (f126 a1 a2 a3 h)) : mx_M E n 126 [.inr (.inl 0), .inl (.int a1), .inl (.int a2), .inl (.int a3)] h Q := by
  cases n with
  | zero => exact mx_L.zero
  | succ n => exact sl126_0 (x_use (x_eq (K := (xK_i Q)) (f126_eq a1 a2 a3 h) hK) (fun hK => (x166 (x_ov hK (fun j3 hK => (x157 (xh_i (x_ite hK (fun hK => hK) (fun hK => (x157 (xh_i (x_ite hK (fun hK => (x60 (xh_i (x_ite hK (fun hK => (x13 (xh_n (x_hk hK (fun hK => (x_ite hK (fun hK => (x_ite hK (fun hK => (x_ite hK (fun hK => (x_ite hK (fun hK => hK) (fun hK => hK))) (fun hK => hK))) (fun hK => hK))) (fun hK => hK))))))) (fun hK => hK))))) (fun hK => hK))))))))) (fun hK => hK)))))
noncomputable def f127 (a1 : Int32) (a2 : Int32) (h : mx_H) : Int32 × mx_H := x_box (x_opt (f166 a1 h) (fun j3 => (if (f157 a2 1 9) ≠ 0 then (if (h.2.1 (.inl 68) 0) < (f60 j3 h) then (x_h (f13 j3 0 a2 h) (fun h11 => (if (h11.2.1 (.inl 68) 2) ≠ 0 then (((f15 (f60 j3 h11) h11) : Int32), h11) else (((-2) : Int32), h11)))) else (((-2) : Int32), h)) else (((-1) : Int32), h))) (((-1) : Int32), h))
theorem f127_eq (a1 : Int32) (a2 : Int32) (h : mx_H) : f127 a1 a2 h = (x_opt (f166 a1 h) (fun j3 => (if (f157 a2 1 9) ≠ 0 then (if (h.2.1 (.inl 68) 0) < (f60 j3 h) then (x_h (f13 j3 0 a2 h) (fun h11 => (if (h11.2.1 (.inl 68) 2) ≠ 0 then (((f15 (f60 j3 h11) h11) : Int32), h11) else (((-2) : Int32), h11)))) else (((-2) : Int32), h)) else (((-1) : Int32), h))) (((-1) : Int32), h)) := x_box_eq _
theorem x127 {E : mx_Ev} {n : Nat} {h : mx_H} {Q : Option mx_V → mx_H → Prop} {a1 : Int32} {a2 : Int32} (hK : (xK_i Q) (f127 a1 a2 h)) : mx_M E n 127 [.inr (.inl 0), .inl (.int a1), .inl (.int a2)] h Q := by
  cases n with
  | zero => exact mx_L.zero
  | succ n => exact sl127_0 (x_use (x_eq (K := (xK_i Q)) (f127_eq a1 a2 h) hK) (fun hK => (x166 (x_ov hK (fun j3 hK => (x157 (xh_i (x_ite hK (fun hK => (x60 (xh_i (x_ite hK (fun hK => (x13 (xh_n (x_hk hK (fun hK => (x_ite hK (fun hK => (x60 (xh_i (x15 (xh_i hK))))) (fun hK => hK))))))) (fun hK => hK))))) (fun hK => hK))))) (fun hK => hK)))))
noncomputable def f128  (h : mx_H) : Int32 × mx_H := x_box ((h.2.1 (.inl 68) 0 : Int32), mx_uI h (.inl 68) 0 0)
noncomputable def f129 (a1 : Int32) (h : mx_H) : Int32 × mx_H := x_box (if (f157 a1 0 500) ≠ 0 then ((h.2.1 (.inl 71) 0 : Int32), mx_uI h (.inl 71) 0 a1) else (((-1) : Int32), h))
noncomputable def f160 (a0 : Int32) : Int32 := x_box ((f157 a0 0 3) : Int32)
theorem f160_eq (a0 : Int32) : f160 a0 = ((f157 a0 0 3) : Int32) := x_box_eq _
theorem x160 {E : mx_Ev} {n : Nat} {h : mx_H} {Q : Option mx_V → mx_H → Prop} {a0 : Int32} (hK : (xK_ip Q h) (f160 a0)) : mx_M E n 160 [.inl (.int a0)] h Q := by
  cases n with
  | zero => exact mx_L.zero
  | succ n => exact sl160_0 (x_use (x_eq (K := (xK_ip Q h)) (f160_eq a0) hK) (fun hK => (x157 (xh_i (fun _ => hK)))))
noncomputable def f130 (a1 : Int32) (a2 : Int32) (h : mx_H) : Int32 × mx_H := x_box (if (f160 a1) = 0 then (((-2000000000) : Int32), h) else (if (f157 a2 (-1) 5) ≠ 0 then ((h.2.1 (.inl 72) (Int32.toNatClampNeg a1) : Int32), mx_uI h (.inl 72) (Int32.toNatClampNeg a1) a2) else (((-2000000000) : Int32), h)))
theorem f130_eq (a1 : Int32) (a2 : Int32) (h : mx_H) : f130 a1 a2 h = (if (f160 a1) = 0 then (((-2000000000) : Int32), h) else (if (f157 a2 (-1) 5) ≠ 0 then ((h.2.1 (.inl 72) (Int32.toNatClampNeg a1) : Int32), mx_uI h (.inl 72) (Int32.toNatClampNeg a1) a2) else (((-2000000000) : Int32), h))) := x_box_eq _
theorem x130 {E : mx_Ev} {n : Nat} {h : mx_H} {Q : Option mx_V → mx_H → Prop} {a1 : Int32} {a2 : Int32} (hK : (xK_i Q) (f130 a1 a2 h)) : mx_M E n 130 [.inr (.inl 0), .inl (.int a1), .inl (.int a2)] h Q := by
  cases n with
  | zero => exact mx_L.zero
  | succ n => exact sl130_0 (x_use (x_eq (K := (xK_i Q)) (f130_eq a1 a2 h) hK) (fun hK => (x160 (xh_i (x_ite hK (fun hK => hK) (fun hK => (x157 (xh_i (x_ite hK (fun hK => (fun _ => (fun _ => hK))) (fun hK => hK))))))))))
noncomputable def f159 (a0 : Int32) : Int32 := x_box ((f157 a0 (-99) 99) : Int32)
theorem f159_eq (a0 : Int32) : f159 a0 = ((f157 a0 (-99) 99) : Int32) := x_box_eq _
theorem x159 {E : mx_Ev} {n : Nat} {h : mx_H} {Q : Option mx_V → mx_H → Prop} {a0 : Int32} (hK : (xK_ip Q h) (f159 a0)) : mx_M E n 159 [.inl (.int a0)] h Q := by
  cases n with
  | zero => exact mx_L.zero
  | succ n => exact sl159_0 (x_use (x_eq (K := (xK_ip Q h)) (f159_eq a0) hK) (fun hK => (x157 (xh_i (fun _ => hK)))))
noncomputable def f131 (a1 : Int32) (a2 : Int32) (a3 : Int32) (a4 : Int32) (h : mx_H) : Int32 × mx_H := x_box (x_opt (f166 a1 h) (fun j3 => (if (f164 j3 a2 h) = 0 then (((-1) : Int32), h) else (if (f159 a3) = 0 then (((-1) : Int32), h) else (if (f157 a4 1 200) ≠ 0 then (if (h.2.1 (.inr (j3, 4)) (Int32.toNatClampNeg a2)) = 0 then (x_h (f22 0 j3 h) (fun h14 => (x_h (f3 0 h14) (fun h16 => (x_h (f4 0 a2 a3 h16) (fun h18 => (x_let (f5 0 a4 0 h18) (fun x21 h20 => ((x21 : Int32), h20))))))))) else (((-4) : Int32), h)) else (((-1) : Int32), h))))) (((-1) : Int32), h))
noncomputable def f132 (a1 : Int32) (a2 : Int32) (a3 : Int32) (h : mx_H) : Int32 × mx_H := x_box (if (f157 a1 0 5) = 0 then (((-1) : Int32), h) else (if (f159 a2) = 0 then (((-1) : Int32), h) else (if (f157 a3 0 99) ≠ 0 then (if (h.2.1 (.inl 71) 7) < 6 then (x_h (f2 a1 a2 a3 h) (fun h11 => ((h11.2.1 (.inl 71) 7 : Int32), h11))) else (((-3) : Int32), h)) else (((-1) : Int32), h))))
theorem f132_eq (a1 : Int32) (a2 : Int32) (a3 : Int32) (h : mx_H) : f132 a1 a2 a3 h = (if (f157 a1 0 5) = 0 then (((-1) : Int32), h) else (if (f159 a2) = 0 then (((-1) : Int32), h) else (if (f157 a3 0 99) ≠ 0 then (if (h.2.1 (.inl 71) 7) < 6 then (x_h (f2 a1 a2 a3 h) (fun h11 => ((h11.2.1 (.inl 71) 7 : Int32), h11))) else (((-3) : Int32), h)) else (((-1) : Int32), h)))) := x_box_eq _
theorem x132 {E : mx_Ev} {n : Nat} {h : mx_H} {Q : Option mx_V → mx_H → Prop} {a1 : Int32} {a2 : Int32} {a3 : Int32} (hK : (xK_i Q) (f132 a1 a2 a3 h)) : mx_M E n 132 [.inr (.inl 0), .inl (.int a1), .inl (.int a2), .inl (.int a3)] h Q := by
  cases n with
  | zero => exact mx_L.zero
  | succ n => exact sl132_0 (x_use (x_eq (K := (xK_i Q)) (f132_eq a1 a2 a3 h) hK) (fun hK => (x157 (xh_i (x_ite hK (fun hK => hK) (fun hK => (x159 (xh_i (x_ite hK (fun hK => hK) (fun hK => (x157 (xh_i (x_ite hK (fun hK => (x_ite hK (fun hK => (x2 (xh_n (x_hk hK (fun hK => hK))))) (fun hK => hK))) (fun hK => hK))))))))))))))
noncomputable def f133 (a1 : Int32) (a2 : Int32) (h : mx_H) : Int32 × mx_H := x_box (x_opt (f166 a1 h) (fun j3 => (if (f157 a2 1 200) ≠ 0 then (if (h.2.1 (.inl 71) 7) ≠ 0 then (x_h (f22 0 j3 h) (fun h8 => (x_h (f3 0 h8) (fun h10 => (x_let (f5 0 a2 (h10.2.1 (.inl 71) 7) h10) (fun x13 h12 => ((x13 : Int32), mx_uI h12 (.inl 71) 7 0))))))) else (((-4) : Int32), h)) else (((-1) : Int32), h))) (((-1) : Int32), h))
theorem f133_eq (a1 : Int32) (a2 : Int32) (h : mx_H) : f133 a1 a2 h = (x_opt (f166 a1 h) (fun j3 => (if (f157 a2 1 200) ≠ 0 then (if (h.2.1 (.inl 71) 7) ≠ 0 then (x_h (f22 0 j3 h) (fun h8 => (x_h (f3 0 h8) (fun h10 => (x_let (f5 0 a2 (h10.2.1 (.inl 71) 7) h10) (fun x13 h12 => ((x13 : Int32), mx_uI h12 (.inl 71) 7 0))))))) else (((-4) : Int32), h)) else (((-1) : Int32), h))) (((-1) : Int32), h)) := x_box_eq _
theorem x133 {E : mx_Ev} {n : Nat} {h : mx_H} {Q : Option mx_V → mx_H → Prop} {a1 : Int32} {a2 : Int32} (hK : (xK_i Q) (f133 a1 a2 h)) : mx_M E n 133 [.inr (.inl 0), .inl (.int a1), .inl (.int a2)] h Q := by
  cases n with
  | zero => exact mx_L.zero
  | succ n => exact sl133_0 (x_use (x_eq (K := (xK_i Q)) (f133_eq a1 a2 h) hK) (fun hK => (x166 (x_ov hK (fun j3 hK => (x157 (xh_i (x_ite hK (fun hK => (x_ite hK (fun hK => (x22 (xh_n (x_hk hK (fun hK => (x3 (xh_n (x_hk hK (fun hK => (x5 (xh_i (x_letk hK (fun hK => hK))))))))))))) (fun hK => hK))) (fun hK => hK))))) (fun hK => hK)))))
noncomputable def f134 (a1 : Int32) (a2 : Int32) (h : mx_H) : Int32 := x_box (if (f160 a1) = 0 then ((-2000000000) : Int32) else (if (f157 a2 1 (h.2.1 (.inl 71) 2)) = 0 then ((-2000000000) : Int32) else (if (f7 a1 h) ≠ 0 then ((f8 a1 a2 h) : Int32) else ((-2000000000) : Int32))))
noncomputable def f135 (a1 : Int32) (a2 : Int32) (h : mx_H) : Int32 := x_box (if (f160 a1) = 0 then ((-1) : Int32) else (if (-1) ≤ a2 then (if (f7 a1 h) ≠ 0 then (if a2 ≠ (-1) then ((f10 a1 a2 h) : Int32) else ((f9 a1 h) : Int32)) else ((-4) : Int32)) else ((-1) : Int32)))
theorem f135_eq (a1 : Int32) (a2 : Int32) (h : mx_H) : f135 a1 a2 h = (if (f160 a1) = 0 then ((-1) : Int32) else (if (-1) ≤ a2 then (if (f7 a1 h) ≠ 0 then (if a2 ≠ (-1) then ((f10 a1 a2 h) : Int32) else ((f9 a1 h) : Int32)) else ((-4) : Int32)) else ((-1) : Int32))) := x_box_eq _
theorem x135 {E : mx_Ev} {n : Nat} {h : mx_H} {Q : Option mx_V → mx_H → Prop} {a1 : Int32} {a2 : Int32} (hK : (xK_ip Q h) (f135 a1 a2 h)) : mx_M E n 135 [.inr (.inl 0), .inl (.int a1), .inl (.int a2)] h Q := by
  cases n with
  | zero => exact mx_L.zero
  | succ n => exact sl135_0 (x_use (x_eq (K := (xK_ip Q h)) (f135_eq a1 a2 h) hK) (fun hK => (x160 (xh_i (x_ite hK (fun hK => hK) (fun hK => (x_ite hK (fun hK => (x7 (xh_i (x_ite hK (fun hK => (x_ite hK (fun hK => (x10 (xh_i hK))) (fun hK => (x9 (xh_i hK))))) (fun hK => hK))))) (fun hK => hK))))))))
noncomputable def f161 (a0 : Int32) : Int32 := x_box ((f157 a0 0 5) : Int32)
theorem f161_eq (a0 : Int32) : f161 a0 = ((f157 a0 0 5) : Int32) := x_box_eq _
theorem x161 {E : mx_Ev} {n : Nat} {h : mx_H} {Q : Option mx_V → mx_H → Prop} {a0 : Int32} (hK : (xK_ip Q h) (f161 a0)) : mx_M E n 161 [.inl (.int a0)] h Q := by
  cases n with
  | zero => exact mx_L.zero
  | succ n => exact sl161_0 (x_use (x_eq (K := (xK_ip Q h)) (f161_eq a0) hK) (fun hK => (x157 (xh_i (fun _ => hK)))))
noncomputable def b136 : ((Int32 × Int32 × Int32 × Int32 × Int32 × mx_H)) → ((Int32 × Int32 × Int32 × Int32 × Int32 × mx_H)) ⊕ (Int32 × mx_H)
  | (a1, a2, a3, a6, a7, h) => (if a6 ≤ a7 then (Sum.inr ((a6 : Int32), h)) else (x_h (f79 a2 (a3 + a7) (f8 a1 (a7 + 1) h) h) (fun h5 => (Sum.inl (a1, a2, a3, a6, (a7 + 1), h5)))))
noncomputable def g136_105 (a1 : Int32) (a2 : Int32) (a3 : Int32) (a6 : Int32) (a7 : Int32) (h : mx_H) : Int32 × mx_H := ml_wh b136 (a1, a2, a3, a6, a7, h)
noncomputable def f136 (a1 : Int32) (a2 : Int32) (a3 : Int32) (a4 : Int32) (h : mx_H) : Int32 × mx_H := x_box (if (f160 a1) = 0 then (((-1) : Int32), h) else (if (f161 a2) = 0 then (((-1) : Int32), h) else (if (f157 a4 1 60) ≠ 0 then (if (f7 a1 h) ≠ 0 then (x_val (f73 a2 h) (fun x15 => (if x15 = 0 then (if (f74 a2 a3 h) ≠ 0 then (g136_105 a1 a2 a3 (if (if (h.2.1 (.inl 71) 2) < ((h.2.1 (.inl 96) (Int32.toNatClampNeg a2)) - a3) then (h.2.1 (.inl 71) 2) else ((h.2.1 (.inl 96) (Int32.toNatClampNeg a2)) - a3)) < a4 then (if (h.2.1 (.inl 71) 2) < ((h.2.1 (.inl 96) (Int32.toNatClampNeg a2)) - a3) then (h.2.1 (.inl 71) 2) else ((h.2.1 (.inl 96) (Int32.toNatClampNeg a2)) - a3)) else a4) 0 h) else (((-13) : Int32), h)) else ((x15 : Int32), h)))) else (((-4) : Int32), h)) else (((-1) : Int32), h))))
noncomputable def f137 (a1 : Int32) (a2 : Int32) (h : mx_H) : Int32 := x_box (if (f161 a1) = 0 then ((-1) : Int32) else (if (f157 a2 2 60) ≠ 0 then (x_val (f73 a1 h) (fun x9 => (if x9 = 0 then (x_val (f81 a1 a2 h) (fun x12 => (Int64.toInt32 (if 1999999999 < x12 then 1999999999 else x12) : Int32))) else (x9 : Int32)))) else ((-1) : Int32)))
noncomputable def f138 (a1 : Int32) (h : mx_H) : Int32 := x_box (if (f161 a1) ≠ 0 then (x_val (f73 a1 h) (fun x6 => (if x6 = 0 then (if (h.2.1 (.inl 96) (Int32.toNatClampNeg a1)) ≠ 0 then ((f83 a1 h) : Int32) else ((-2) : Int32)) else (x6 : Int32)))) else ((-1) : Int32))
noncomputable def f139 (a1 : Int32) (a2 : Int32) (h : mx_H) : Int32 × mx_H := x_box (if (f157 a1 1 9) = 0 then (((-1) : Int32), h) else (if (f157 a2 1 9) ≠ 0 then (if (h.2.1 (.inl 80) 0) < 6 then (x_h (f53 a1 a2 h) (fun h8 => ((h8.2.1 (.inl 80) 0 : Int32), h8))) else (((-3) : Int32), h)) else (((-1) : Int32), h)))
noncomputable def b140 : ((Int32 × Int32 × Int32 × Int32 × Int32 × mx_H)) → ((Int32 × Int32 × Int32 × Int32 × Int32 × mx_H)) ⊕ (Int32 × mx_H)
  | (a1, a2, a3, a4, a5, h) => (if a2 ≤ a5 then (if (a2 - 1) ≤ (h.2.1 (.inl 80) 0) then (if a4 ≠ 0 then (Sum.inr (((f56 a2 a3 h) : Int32), h)) else (Sum.inr (((f55 a2 a3 h) : Int32), h))) else (Sum.inr (((-4) : Int32), h))) else (x_opt (f166 ((a1 >>> ((4 * a5) &&& 31)) &&& 15) h) (fun j9 => (if (f60 j9 h) ≠ 0 then (x_h (f22 0 j9 h) (fun h14 => (x_let (f33 0 0 9 h14) (fun x17 h16 => (Sum.inl (a1, a2, a3, a4, (a5 + 1), mx_uI h16 (.inl 83) (Int32.toNatClampNeg a5) x17)))))) else (Sum.inr (((-1) : Int32), h)))) (Sum.inr (((-1) : Int32), h))))
noncomputable def g140_46 (a1 : Int32) (a2 : Int32) (a3 : Int32) (a4 : Int32) (a5 : Int32) (h : mx_H) : Int32 × mx_H := ml_wh b140 (a1, a2, a3, a4, a5, h)
theorem g140_46_eq (a1 : Int32) (a2 : Int32) (a3 : Int32) (a4 : Int32) (a5 : Int32) (h : mx_H) : g140_46 a1 a2 a3 a4 a5 h = (if a2 ≤ a5 then (if (a2 - 1) ≤ (h.2.1 (.inl 80) 0) then (if a4 ≠ 0 then (((f56 a2 a3 h) : Int32), h) else (((f55 a2 a3 h) : Int32), h)) else (((-4) : Int32), h)) else (x_opt (f166 ((a1 >>> ((4 * a5) &&& 31)) &&& 15) h) (fun j9 => (if (f60 j9 h) ≠ 0 then (x_h (f22 0 j9 h) (fun h14 => (x_let (f33 0 0 9 h14) (fun x17 h16 => (g140_46 a1 a2 a3 a4 (a5 + 1) (mx_uI h16 (.inl 83) (Int32.toNatClampNeg a5) x17)))))) else (((-1) : Int32), h))) (((-1) : Int32), h))) := by
  unfold g140_46
  rw [ml_wh_eq]
  simp only [b140, ml_go_ite, ml_go_l, ml_go_r, ml_go_opt, ml_go_let, ml_go_h, ml_go_val]
  try rfl
noncomputable def f140 (a1 : Int32) (a2 : Int32) (a3 : Int32) (a4 : Int32) (h : mx_H) : Int32 × mx_H := x_box (if (f157 a2 2 7) = 0 then (((-1) : Int32), h) else (if (a1 >>> ((4 * a2) &&& 31)) = 0 then (if (f157 a3 0 9999) = 0 then (((-1) : Int32), h) else (if (f157 a4 0 1) ≠ 0 then (g140_46 a1 a2 a3 a4 0 h) else (((-1) : Int32), h))) else (((-1) : Int32), h)))
theorem f140_eq (a1 : Int32) (a2 : Int32) (a3 : Int32) (a4 : Int32) (h : mx_H) : f140 a1 a2 a3 a4 h = (if (f157 a2 2 7) = 0 then (((-1) : Int32), h) else (if (a1 >>> ((4 * a2) &&& 31)) = 0 then (if (f157 a3 0 9999) = 0 then (((-1) : Int32), h) else (if (f157 a4 0 1) ≠ 0 then (g140_46 a1 a2 a3 a4 0 h) else (((-1) : Int32), h))) else (((-1) : Int32), h))) := x_box_eq _
theorem xw140 {E : mx_Ev} {Q : Option mx_V → mx_H → Prop} : ∀ n : Nat, (∀ (a1 : Int32) (a2 : Int32) (a3 : Int32) (a4 : Int32) (a5 : Int32) (h : mx_H), (xK_i Q) (g140_46 a1 a2 a3 a4 a5 h) → mx_L E n 140 46 [(0, .inr (.inl 0)), (1, .inl (.int a1)), (2, .inl (.int a2)), (3, .inl (.int a3)), (4, .inl (.int a4)), (5, .inl (.int a5))] [] h Q)
  | 0 => fun _ _ _ _ _ _ _ => mx_L.zero
  | n + 1 => fun a1 a2 a3 a4 a5 h hK => sl140_46 (x_use (x_eq (K := (xK_i Q)) (g140_46_eq a1 a2 a3 a4 a5 h) hK) (fun hK => (x_ite hK (fun hK => (x_ite hK (fun hK => (x_ite hK (fun hK => (x56 (xh_i hK))) (fun hK => (x55 (xh_i hK))))) (fun hK => hK))) (fun hK => (x166 (x_ov hK (fun j9 hK => (x60 (xh_i (x_ite hK (fun hK => (x22 (xh_n (x_hk hK (fun hK => (x33 (xh_i (x_letk hK (fun hK => (fun _ => ((xw140 n) _ _ _ _ _ _ hK))))))))))) (fun hK => hK))))) (fun hK => hK)))))))
theorem x140 {E : mx_Ev} {n : Nat} {h : mx_H} {Q : Option mx_V → mx_H → Prop} {a1 : Int32} {a2 : Int32} {a3 : Int32} {a4 : Int32} (hK : (xK_i Q) (f140 a1 a2 a3 a4 h)) : mx_M E n 140 [.inr (.inl 0), .inl (.int a1), .inl (.int a2), .inl (.int a3), .inl (.int a4)] h Q := by
  cases n with
  | zero => exact mx_L.zero
  | succ n => exact sl140_0 (x_use (x_eq (K := (xK_i Q)) (f140_eq a1 a2 a3 a4 h) hK) (fun hK => (x157 (xh_i (x_ite hK (fun hK => hK) (fun hK => (x_ite hK (fun hK => (x157 (xh_i (x_ite hK (fun hK => hK) (fun hK => (x157 (xh_i (x_ite hK (fun hK => ((xw140 n) _ _ _ _ _ _ hK)) (fun hK => hK))))))))) (fun hK => hK))))))))
noncomputable def f141  (h : mx_H) : Int32 × mx_H := x_box ((h.2.1 (.inl 80) 0 : Int32), mx_uI h (.inl 80) 0 0)
noncomputable def f171 (a1 : Nat) (a2 : Int32) (h : mx_H) : Int32 × mx_H := x_box (x_h (f22 0 a1 h) (fun h2 => (x_let (f31 0 (a2 / 10) (a2 - a2 / 10 * 10) h2) (fun x5 h4 => ((x5 : Int32), h4)))))
theorem f171_eq (a1 : Nat) (a2 : Int32) (h : mx_H) : f171 a1 a2 h = (x_h (f22 0 a1 h) (fun h2 => (x_let (f31 0 (a2 / 10) (a2 - a2 / 10 * 10) h2) (fun x5 h4 => ((x5 : Int32), h4))))) := x_box_eq _
theorem x171 {E : mx_Ev} {n : Nat} {h : mx_H} {Q : Option mx_V → mx_H → Prop} {a1 : Nat} {a2 : Int32} (hK : (xK_i Q) (f171 a1 a2 h)) : mx_M E n 171 [.inr (.inl 0), .inr (.inr (a1, 0)), .inl (.int a2)] h Q := by
  cases n with
  | zero => exact mx_L.zero
  | succ n => exact sl171_0 (x_use (x_eq (K := (xK_i Q)) (f171_eq a1 a2 h) hK) (fun hK => (x22 (xh_n (x_hk hK (fun hK => (fun _ => (fun _ => (x31 (xh_i (x_letk hK (fun hK => hK))))))))))))
noncomputable def f143 (a1 : Int32) (a2 : Int32) (h : mx_H) : Int32 × mx_H := x_box (x_opt (f166 a1 h) (fun j3 => (if (f158 a2) ≠ 0 then (x_opt (f166 (h.2.1 (.inr (j3, 0)) 11) h) (fun j9 => (x_opt (f166 (h.2.1 (.inr (j3, 0)) 12) h) (fun j12 => (x_let (f171 j9 a2 h) (fun x15 h14 => (x_let (f171 j12 a2 h14) (fun x18 h17 => (x_let (f171 j3 a2 h17) (fun x21 h20 => (if ((x15 + x18) - x21) = 0 then ((1 : Int32), h20) else (if ((x15 + x18) - x21) ≠ 1 then ((0 : Int32), h20) else ((1 : Int32), h20)))))))))) (((-2) : Int32), h))) (x_opt (f166 (h.2.1 (.inr (j3, 0)) 12) h) (fun j24 => (((-2) : Int32), h)) (((-2) : Int32), h))) else (((-1) : Int32), h))) (((-1) : Int32), h))
noncomputable def f144  (h : mx_H) : Int32 × mx_H := x_box (if (h.2.1 (.inl 84) 0) ≠ 0 then (x_h (f19 h) (fun h2 => ((h2.2.1 (.inl 84) 0 : Int32), h2))) else (((-4) : Int32), h))
theorem f144_eq  (h : mx_H) : f144  h = (if (h.2.1 (.inl 84) 0) ≠ 0 then (x_h (f19 h) (fun h2 => ((h2.2.1 (.inl 84) 0 : Int32), h2))) else (((-4) : Int32), h)) := x_box_eq _
theorem x144 {E : mx_Ev} {n : Nat} {h : mx_H} {Q : Option mx_V → mx_H → Prop} (hK : (xK_i Q) (f144  h)) : mx_M E n 144 [.inr (.inl 0)] h Q := by
  cases n with
  | zero => exact mx_L.zero
  | succ n => exact sl144_0 (x_use (x_eq (K := (xK_i Q)) (f144_eq  h) hK) (fun hK => (x_ite hK (fun hK => (x19 (xh_n (x_hk hK (fun hK => hK))))) (fun hK => hK))))
noncomputable def f145  (h : mx_H) : Int32 × mx_H := x_box (if (h.2.1 (.inl 84) 1) ≠ 0 then (x_h (f20 h) (fun h2 => ((h2.2.1 (.inl 84) 1 : Int32), h2))) else (((-4) : Int32), h))
theorem f145_eq  (h : mx_H) : f145  h = (if (h.2.1 (.inl 84) 1) ≠ 0 then (x_h (f20 h) (fun h2 => ((h2.2.1 (.inl 84) 1 : Int32), h2))) else (((-4) : Int32), h)) := x_box_eq _
theorem x145 {E : mx_Ev} {n : Nat} {h : mx_H} {Q : Option mx_V → mx_H → Prop} (hK : (xK_i Q) (f145  h)) : mx_M E n 145 [.inr (.inl 0)] h Q := by
  cases n with
  | zero => exact mx_L.zero
  | succ n => exact sl145_0 (x_use (x_eq (K := (xK_i Q)) (f145_eq  h) hK) (fun hK => (x_ite hK (fun hK => (x20 (xh_n (x_hk hK (fun hK => hK))))) (fun hK => hK))))
noncomputable def b146 : ((Int32 × Int32 × mx_H)) → ((Int32 × Int32 × mx_H)) ⊕ (Int32)
  | (a1, a2, h) => (if (h.2.1 (.inl 0) 2) ≤ a2 then (Sum.inr (a1 : Int32)) else (x_opt (f166 a2 h) (fun j3 => (Sum.inl ((f68 j3 a1 h), (a2 + 1), h))) (Sum.inl (a1, (a2 + 1), h))))
noncomputable def g146_5 (a1 : Int32) (a2 : Int32) (h : mx_H) : Int32 := ml_wh b146 (a1, a2, h)
theorem g146_5_eq (a1 : Int32) (a2 : Int32) (h : mx_H) : g146_5 a1 a2 h = (if (h.2.1 (.inl 0) 2) ≤ a2 then (a1 : Int32) else (x_opt (f166 a2 h) (fun j3 => (g146_5 (f68 j3 a1 h) (a2 + 1) h)) (g146_5 a1 (a2 + 1) h))) := by
  unfold g146_5
  rw [ml_wh_eq]
  simp only [b146, ml_go_ite, ml_go_l, ml_go_r, ml_go_opt, ml_go_let, ml_go_h, ml_go_val]
  try rfl
noncomputable def f146  (h : mx_H) : Int32 := x_box (g146_5 7 0 h)
theorem f146_eq  (h : mx_H) : f146  h = (g146_5 7 0 h) := x_box_eq _
theorem xw146 {E : mx_Ev} {Q : Option mx_V → mx_H → Prop} : ∀ n : Nat, (∀ (a1 : Int32) (a2 : Int32) (h : mx_H), (xK_ip Q h) (g146_5 a1 a2 h) → mx_L E n 146 5 [(0, .inr (.inl 0)), (1, .inl (.int a1)), (2, .inl (.int a2))] [] h Q)
  | 0 => fun _ _ _ _ => mx_L.zero
  | n + 1 => fun a1 a2 h hK => sl146_5 (x_use (x_eq (K := (xK_ip Q h)) (g146_5_eq a1 a2 h) hK) (fun hK => (x_ite hK (fun hK => hK) (fun hK => (x166 (x_ov hK (fun j3 hK => (x68 (xh_i ((xw146 n) _ _ _ hK)))) (fun hK => ((xw146 n) _ _ _ hK))))))))
theorem x146 {E : mx_Ev} {n : Nat} {h : mx_H} {Q : Option mx_V → mx_H → Prop} (hK : (xK_ip Q h) (f146  h)) : mx_M E n 146 [.inr (.inl 0)] h Q := by
  cases n with
  | zero => exact mx_L.zero
  | succ n => exact sl146_0 (x_use (x_eq (K := (xK_ip Q h)) (f146_eq  h) hK) (fun hK => ((xw146 n) _ _ _ hK)))
noncomputable def f162 (a0 : Int32) : Int32 := x_box ((f157 a0 0 5) : Int32)
theorem f162_eq (a0 : Int32) : f162 a0 = ((f157 a0 0 5) : Int32) := x_box_eq _
theorem x162 {E : mx_Ev} {n : Nat} {h : mx_H} {Q : Option mx_V → mx_H → Prop} {a0 : Int32} (hK : (xK_ip Q h) (f162 a0)) : mx_M E n 162 [.inl (.int a0)] h Q := by
  cases n with
  | zero => exact mx_L.zero
  | succ n => exact sl162_0 (x_use (x_eq (K := (xK_ip Q h)) (f162_eq a0) hK) (fun hK => (x157 (xh_i (fun _ => hK)))))
noncomputable def f147 (a1 : Int32) (h : mx_H) : Int32 × mx_H := x_box (if (f162 a1) ≠ 0 then (if (h.2.1 (.inl 90) 0) < 200 then (x_let (f37_null a1 h) (fun x6 h5 => ((x6 : Int32), h5))) else (((-3) : Int32), h)) else (((-1) : Int32), h))
theorem f147_eq (a1 : Int32) (h : mx_H) : f147 a1 h = (if (f162 a1) ≠ 0 then (if (h.2.1 (.inl 90) 0) < 200 then (x_let (f37_null a1 h) (fun x6 h5 => ((x6 : Int32), h5))) else (((-3) : Int32), h)) else (((-1) : Int32), h)) := x_box_eq _
theorem x147 {E : mx_Ev} {n : Nat} {h : mx_H} {Q : Option mx_V → mx_H → Prop} {a1 : Int32} (hK : (xK_i Q) (f147 a1 h)) : mx_M E n 147 [.inr (.inl 0), .inl (.int a1)] h Q := by
  cases n with
  | zero => exact mx_L.zero
  | succ n => exact sl147_0 (x_use (x_eq (K := (xK_i Q)) (f147_eq a1 h) hK) (fun hK => (x162 (xh_i (x_ite hK (fun hK => (x_ite hK (fun hK => (x37_null (xh_i (x_letk hK (fun hK => hK))))) (fun hK => hK))) (fun hK => hK))))))
noncomputable def f163 (a1 : Int32) (h : mx_H) : Int32 := x_box ((f157 a1 0 ((h.2.1 (.inl 90) 0) - 1)) : Int32)
theorem f163_eq (a1 : Int32) (h : mx_H) : f163 a1 h = ((f157 a1 0 ((h.2.1 (.inl 90) 0) - 1)) : Int32) := x_box_eq _
theorem x163 {E : mx_Ev} {n : Nat} {h : mx_H} {Q : Option mx_V → mx_H → Prop} {a1 : Int32} (hK : (xK_ip Q h) (f163 a1 h)) : mx_M E n 163 [.inr (.inl 0), .inl (.int a1)] h Q := by
  cases n with
  | zero => exact mx_L.zero
  | succ n => exact sl163_0 (x_use (x_eq (K := (xK_ip Q h)) (f163_eq a1 h) hK) (fun hK => (x157 (xh_i (fun _ => hK)))))
noncomputable def f150 (a1 : Int32) (a2 : Int32) (h : mx_H) : Int32 × mx_H := x_box (if (f161 a1) = 0 then (((-1) : Int32), h) else (if a2 = (-1) then (x_h (f70 a1 a2 h) (fun h5 => ((1 : Int32), h5))) else (if (f163 a2 h) ≠ 0 then (x_h (f70 a1 a2 h) (fun h10 => ((1 : Int32), h10))) else (((-1) : Int32), h))))
theorem f150_eq (a1 : Int32) (a2 : Int32) (h : mx_H) : f150 a1 a2 h = (if (f161 a1) = 0 then (((-1) : Int32), h) else (if a2 = (-1) then (x_h (f70 a1 a2 h) (fun h5 => ((1 : Int32), h5))) else (if (f163 a2 h) ≠ 0 then (x_h (f70 a1 a2 h) (fun h10 => ((1 : Int32), h10))) else (((-1) : Int32), h)))) := x_box_eq _
theorem x150 {E : mx_Ev} {n : Nat} {h : mx_H} {Q : Option mx_V → mx_H → Prop} {a1 : Int32} {a2 : Int32} (hK : (xK_i Q) (f150 a1 a2 h)) : mx_M E n 150 [.inr (.inl 0), .inl (.int a1), .inl (.int a2)] h Q := by
  cases n with
  | zero => exact mx_L.zero
  | succ n => exact sl150_0 (x_use (x_eq (K := (xK_i Q)) (f150_eq a1 a2 h) hK) (fun hK => (x161 (xh_i (x_ite hK (fun hK => hK) (fun hK => (x_ite hK (fun hK => (x70 (xh_n (x_hk hK (fun hK => hK))))) (fun hK => (x163 (xh_i (x_ite hK (fun hK => (x70 (xh_n (x_hk hK (fun hK => hK))))) (fun hK => hK))))))))))))
noncomputable def f151 (a1 : Int32) (a2 : Int32) (a3 : Int32) (h : mx_H) : Int32 × mx_H := x_box (if (f161 a1) = 0 then (((-1) : Int32), h) else (if (f157 a2 0 4) = 0 then (((-1) : Int32), h) else (if a3 ≤ 60 then (if 0 ≤ a3 then (x_h (f71 a1 a2 a3 h) (fun h8 => ((1 : Int32), h8))) else (((-14) : Int32), h)) else (((-1) : Int32), h))))
theorem f151_eq (a1 : Int32) (a2 : Int32) (a3 : Int32) (h : mx_H) : f151 a1 a2 a3 h = (if (f161 a1) = 0 then (((-1) : Int32), h) else (if (f157 a2 0 4) = 0 then (((-1) : Int32), h) else (if a3 ≤ 60 then (if 0 ≤ a3 then (x_h (f71 a1 a2 a3 h) (fun h8 => ((1 : Int32), h8))) else (((-14) : Int32), h)) else (((-1) : Int32), h)))) := x_box_eq _
theorem x151 {E : mx_Ev} {n : Nat} {h : mx_H} {Q : Option mx_V → mx_H → Prop} {a1 : Int32} {a2 : Int32} {a3 : Int32} (hK : (xK_i Q) (f151 a1 a2 a3 h)) : mx_M E n 151 [.inr (.inl 0), .inl (.int a1), .inl (.int a2), .inl (.int a3)] h Q := by
  cases n with
  | zero => exact mx_L.zero
  | succ n => exact sl151_0 (x_use (x_eq (K := (xK_i Q)) (f151_eq a1 a2 a3 h) hK) (fun hK => (x161 (xh_i (x_ite hK (fun hK => hK) (fun hK => (x157 (xh_i (x_ite hK (fun hK => hK) (fun hK => (x_ite hK (fun hK => (x_ite hK (fun hK => (x71 (xh_n (x_hk hK (fun hK => hK))))) (fun hK => hK))) (fun hK => hK))))))))))))
noncomputable def f152 (a1 : Int32) (a2 : Int32) (a3 : Int64) (h : mx_H) : Int32 × mx_H := x_box (if (f161 a1) ≠ 0 then (x_val (f72 a1 h) (fun x6 => (if x6 = 0 then (if (f74 a1 a2 h) ≠ 0 then (x_h (f76 a1 a2 a3 h) (fun h11 => ((1 : Int32), h11))) else (((-13) : Int32), h)) else ((x6 : Int32), h)))) else (((-1) : Int32), h))
noncomputable def f153 (a1 : Int32) (a2 : Int32) (h : mx_H) : Int64 := x_box (if (f161 a1) = 0 then ((-9223372036854775808) : Int64) else (if (f72 a1 h) ≠ 0 then ((-9223372036854775808) : Int64) else (if (f74 a1 a2 h) ≠ 0 then (h.2.2.1 (.inr ((Int32.toNatClampNeg a1), 20)) (Int32.toNatClampNeg a2) : Int64) else ((-9223372036854775808) : Int64))))
theorem f153_eq (a1 : Int32) (a2 : Int32) (h : mx_H) : f153 a1 a2 h = (if (f161 a1) = 0 then ((-9223372036854775808) : Int64) else (if (f72 a1 h) ≠ 0 then ((-9223372036854775808) : Int64) else (if (f74 a1 a2 h) ≠ 0 then (h.2.2.1 (.inr ((Int32.toNatClampNeg a1), 20)) (Int32.toNatClampNeg a2) : Int64) else ((-9223372036854775808) : Int64)))) := x_box_eq _
theorem x153 {E : mx_Ev} {n : Nat} {h : mx_H} {Q : Option mx_V → mx_H → Prop} {a1 : Int32} {a2 : Int32} (hK : (xK_lp Q h) (f153 a1 a2 h)) : mx_M E n 153 [.inr (.inl 0), .inl (.int a1), .inl (.int a2)] h Q := by
  cases n with
  | zero => exact mx_L.zero
  | succ n => exact sl153_0 (x_use (x_eq (K := (xK_lp Q h)) (f153_eq a1 a2 h) hK) (fun hK => (x161 (xh_i (x_ite hK (fun hK => hK) (fun hK => (x72 (xh_i (x_ite hK (fun hK => hK) (fun hK => (x74 (xh_i (x_ite hK (fun hK => (fun _ => (fun _ => hK))) (fun hK => hK))))))))))))))
noncomputable def f155 (a1 : Int32) (a2 : Int32) (h : mx_H) : Int32 := x_box (if (f161 a1) = 0 then ((-1) : Int32) else (if (f162 a2) ≠ 0 then (if (h.2.1 (.inl 95) (Int32.toNatClampNeg a1)) ≠ (-2) then (if (h.2.1 (.inl 95) (Int32.toNatClampNeg a1)) ≠ (-1) then ((-12) : Int32) else (if (f163 (h.2.1 (.inl 97) (Int32.toNatClampNeg a1)) h) ≠ 0 then (if (f38 (h.2.1 (.inl 91) (Int32.toNatClampNeg (h.2.1 (.inl 97) (Int32.toNatClampNeg a1)))) a2 h) = 0 then ((-12) : Int32) else (h.2.1 (.inl 91) (Int32.toNatClampNeg (h.2.1 (.inl 97) (Int32.toNatClampNeg a1))) : Int32)) else ((-12) : Int32))) else ((-11) : Int32)) else ((-1) : Int32)))
noncomputable def b156 : ((mx_H) ⊕ (mx_H) ⊕ (mx_H) ⊕ (mx_H) ⊕ (mx_H) ⊕ (mx_H) ⊕ (mx_H)) → ((mx_H) ⊕ (mx_H) ⊕ (mx_H) ⊕ (mx_H) ⊕ (mx_H) ⊕ (mx_H) ⊕ (mx_H)) ⊕ (Int32)
  | (.inl h) => (Sum.inr (h.2.1 (.inl 0) 2 : Int32))
  | (.inr (.inl h)) => (Sum.inr (h.2.1 (.inl 90) 0 : Int32))
  | (.inr (.inr (.inl h))) => (Sum.inr (h.2.1 (.inl 1) 1 : Int32))
  | (.inr (.inr (.inr (.inl h)))) => (Sum.inr (h.2.1 (.inl 84) 0 : Int32))
  | (.inr (.inr (.inr (.inr (.inl h))))) => (Sum.inr (h.2.1 (.inl 90) 3 : Int32))
  | (.inr (.inr (.inr (.inr (.inr (.inl h)))))) => (Sum.inr (h.2.1 (.inl 71) 2 : Int32))
  | (.inr (.inr (.inr (.inr (.inr (.inr h)))))) => (Sum.inr ((-1) : Int32))
noncomputable def g156_40  (h : mx_H) : Int32 := ml_wh b156 (.inl h)
noncomputable def g156_45  (h : mx_H) : Int32 := ml_wh b156 (.inr (.inl h))
noncomputable def g156_53  (h : mx_H) : Int32 := ml_wh b156 (.inr (.inr (.inl h)))
noncomputable def g156_61  (h : mx_H) : Int32 := ml_wh b156 (.inr (.inr (.inr (.inl h))))
noncomputable def g156_69  (h : mx_H) : Int32 := ml_wh b156 (.inr (.inr (.inr (.inr (.inl h)))))
noncomputable def g156_77  (h : mx_H) : Int32 := ml_wh b156 (.inr (.inr (.inr (.inr (.inr (.inl h))))))
noncomputable def g156_85  (h : mx_H) : Int32 := ml_wh b156 (.inr (.inr (.inr (.inr (.inr (.inr h))))))
theorem g156_40_eq  (h : mx_H) : g156_40  h = (h.2.1 (.inl 0) 2 : Int32) := by
  unfold g156_40
  rw [ml_wh_eq]
  simp only [b156, ml_go_ite, ml_go_l, ml_go_r, ml_go_opt, ml_go_let, ml_go_h, ml_go_val]
  try rfl
theorem g156_45_eq  (h : mx_H) : g156_45  h = (h.2.1 (.inl 90) 0 : Int32) := by
  unfold g156_45
  rw [ml_wh_eq]
  simp only [b156, ml_go_ite, ml_go_l, ml_go_r, ml_go_opt, ml_go_let, ml_go_h, ml_go_val]
  try rfl
theorem g156_53_eq  (h : mx_H) : g156_53  h = (h.2.1 (.inl 1) 1 : Int32) := by
  unfold g156_53
  rw [ml_wh_eq]
  simp only [b156, ml_go_ite, ml_go_l, ml_go_r, ml_go_opt, ml_go_let, ml_go_h, ml_go_val]
  try rfl
theorem g156_61_eq  (h : mx_H) : g156_61  h = (h.2.1 (.inl 84) 0 : Int32) := by
  unfold g156_61
  rw [ml_wh_eq]
  simp only [b156, ml_go_ite, ml_go_l, ml_go_r, ml_go_opt, ml_go_let, ml_go_h, ml_go_val]
  try rfl
theorem g156_69_eq  (h : mx_H) : g156_69  h = (h.2.1 (.inl 90) 3 : Int32) := by
  unfold g156_69
  rw [ml_wh_eq]
  simp only [b156, ml_go_ite, ml_go_l, ml_go_r, ml_go_opt, ml_go_let, ml_go_h, ml_go_val]
  try rfl
theorem g156_77_eq  (h : mx_H) : g156_77  h = (h.2.1 (.inl 71) 2 : Int32) := by
  unfold g156_77
  rw [ml_wh_eq]
  simp only [b156, ml_go_ite, ml_go_l, ml_go_r, ml_go_opt, ml_go_let, ml_go_h, ml_go_val]
  try rfl
theorem g156_85_eq  (h : mx_H) : g156_85  h = ((-1) : Int32) := by
  unfold g156_85
  rw [ml_wh_eq]
  simp only [b156, ml_go_ite, ml_go_l, ml_go_r, ml_go_opt, ml_go_let, ml_go_h, ml_go_val]
  try rfl
noncomputable def f156 (a1 : Int32) (h : mx_H) : Int32 := x_box (if a1 = 0 then (g156_40  h) else (if a1 = 1 then (g156_45  h) else (if a1 = 2 then (g156_53  h) else (if a1 = 3 then (g156_61  h) else (if a1 = 4 then (g156_69  h) else (if a1 = 5 then (g156_77  h) else (g156_85  h)))))))
theorem f156_eq (a1 : Int32) (h : mx_H) : f156 a1 h = (if a1 = 0 then (g156_40  h) else (if a1 = 1 then (g156_45  h) else (if a1 = 2 then (g156_53  h) else (if a1 = 3 then (g156_61  h) else (if a1 = 4 then (g156_69  h) else (if a1 = 5 then (g156_77  h) else (g156_85  h))))))) := x_box_eq _
theorem xw156 {E : mx_Ev} {Q : Option mx_V → mx_H → Prop} : ∀ n : Nat, (∀ (h : mx_H), (xK_ip Q h) (g156_40  h) → mx_L E n 156 40 [(0, .inr (.inl 0))] [] h Q) ∧ (∀ (h : mx_H), (xK_ip Q h) (g156_45  h) → mx_L E n 156 45 [(0, .inr (.inl 0))] [] h Q) ∧ (∀ (h : mx_H), (xK_ip Q h) (g156_53  h) → mx_L E n 156 53 [(0, .inr (.inl 0))] [] h Q) ∧ (∀ (h : mx_H), (xK_ip Q h) (g156_61  h) → mx_L E n 156 61 [(0, .inr (.inl 0))] [] h Q) ∧ (∀ (h : mx_H), (xK_ip Q h) (g156_69  h) → mx_L E n 156 69 [(0, .inr (.inl 0))] [] h Q) ∧ (∀ (h : mx_H), (xK_ip Q h) (g156_77  h) → mx_L E n 156 77 [(0, .inr (.inl 0))] [] h Q) ∧ (∀ (h : mx_H), (xK_ip Q h) (g156_85  h) → mx_L E n 156 85 [] [] h Q)
  | 0 => ⟨fun _ _ => mx_L.zero, fun _ _ => mx_L.zero, fun _ _ => mx_L.zero, fun _ _ => mx_L.zero, fun _ _ => mx_L.zero, fun _ _ => mx_L.zero, fun _ _ => mx_L.zero⟩
  | n + 1 => ⟨fun h hK => sl156_40 (x_use (x_eq (K := (xK_ip Q h)) (g156_40_eq  h) hK) (fun hK => hK)), fun h hK => sl156_45 (x_use (x_eq (K := (xK_ip Q h)) (g156_45_eq  h) hK) (fun hK => hK)), fun h hK => sl156_53 (x_use (x_eq (K := (xK_ip Q h)) (g156_53_eq  h) hK) (fun hK => hK)), fun h hK => sl156_61 (x_use (x_eq (K := (xK_ip Q h)) (g156_61_eq  h) hK) (fun hK => hK)), fun h hK => sl156_69 (x_use (x_eq (K := (xK_ip Q h)) (g156_69_eq  h) hK) (fun hK => hK)), fun h hK => sl156_77 (x_use (x_eq (K := (xK_ip Q h)) (g156_77_eq  h) hK) (fun hK => hK)), fun h hK => sl156_85 (x_use (x_eq (K := (xK_ip Q h)) (g156_85_eq  h) hK) (fun hK => hK))⟩
theorem x156 {E : mx_Ev} {n : Nat} {h : mx_H} {Q : Option mx_V → mx_H → Prop} {a1 : Int32} (hK : (xK_ip Q h) (f156 a1 h)) : mx_M E n 156 [.inr (.inl 0), .inl (.int a1)] h Q := by
  cases n with
  | zero => exact mx_L.zero
  | succ n => exact sl156_0 (x_use (x_eq (K := (xK_ip Q h)) (f156_eq a1 h) hK) (fun hK => (fun tgt q => by
          rcases q with ⟨q, e⟩ | ⟨q1, q2, o, qo, e⟩
          · have e2 : tgt = 85 := by omega
            subst e2
            replace hK := x_neg (fun e => by rw [e] at q; revert q; decide) hK
            replace hK := x_neg (fun e => by rw [e] at q; revert q; decide) hK
            replace hK := x_neg (fun e => by rw [e] at q; revert q; decide) hK
            replace hK := x_neg (fun e => by rw [e] at q; revert q; decide) hK
            replace hK := x_neg (fun e => by rw [e] at q; revert q; decide) hK
            replace hK := x_neg (fun e => by rw [e] at q; revert q; decide) hK
            exact mx_L.sub (lv' := mx_nrm [] [(0, .inr (.inl 0)), (1, .inl (.int a1))]) mx_nrm_mem ((xw156 n).2.2.2.2.2.2 _ hK)
          · have hv : Int32.toInt a1 = 0 ∨ Int32.toInt a1 = 1 ∨ Int32.toInt a1 = 2 ∨ Int32.toInt a1 = 3 ∨ Int32.toInt a1 = 4 ∨ Int32.toInt a1 = 5 := by omega
            rcases hv with hv | hv | hv | hv | hv | hv
            · rw [hv] at qo
              have eo : o = 39 := (Option.some.inj (qo.symm.trans (rfl : _ = some (39 : Int))))
              have e2 : tgt = 40 := by omega
              subst e2
              replace hK := x_pos (Int32.toInt_inj.mp (hv.trans rfl)) hK
              exact mx_L.sub (lv' := mx_nrm [0] [(0, .inr (.inl 0)), (1, .inl (.int a1))]) mx_nrm_mem ((xw156 n).1 _ hK)
            · rw [hv] at qo
              have eo : o = 44 := (Option.some.inj (qo.symm.trans (rfl : _ = some (44 : Int))))
              have e2 : tgt = 45 := by omega
              subst e2
              replace hK := x_neg (fun e => by rw [e] at hv; revert hv; decide) hK
              replace hK := x_pos (Int32.toInt_inj.mp (hv.trans rfl)) hK
              exact mx_L.sub (lv' := mx_nrm [0] [(0, .inr (.inl 0)), (1, .inl (.int a1))]) mx_nrm_mem ((xw156 n).2.1 _ hK)
            · rw [hv] at qo
              have eo : o = 52 := (Option.some.inj (qo.symm.trans (rfl : _ = some (52 : Int))))
              have e2 : tgt = 53 := by omega
              subst e2
              replace hK := x_neg (fun e => by rw [e] at hv; revert hv; decide) hK
              replace hK := x_neg (fun e => by rw [e] at hv; revert hv; decide) hK
              replace hK := x_pos (Int32.toInt_inj.mp (hv.trans rfl)) hK
              exact mx_L.sub (lv' := mx_nrm [0] [(0, .inr (.inl 0)), (1, .inl (.int a1))]) mx_nrm_mem ((xw156 n).2.2.1 _ hK)
            · rw [hv] at qo
              have eo : o = 60 := (Option.some.inj (qo.symm.trans (rfl : _ = some (60 : Int))))
              have e2 : tgt = 61 := by omega
              subst e2
              replace hK := x_neg (fun e => by rw [e] at hv; revert hv; decide) hK
              replace hK := x_neg (fun e => by rw [e] at hv; revert hv; decide) hK
              replace hK := x_neg (fun e => by rw [e] at hv; revert hv; decide) hK
              replace hK := x_pos (Int32.toInt_inj.mp (hv.trans rfl)) hK
              exact mx_L.sub (lv' := mx_nrm [0] [(0, .inr (.inl 0)), (1, .inl (.int a1))]) mx_nrm_mem ((xw156 n).2.2.2.1 _ hK)
            · rw [hv] at qo
              have eo : o = 68 := (Option.some.inj (qo.symm.trans (rfl : _ = some (68 : Int))))
              have e2 : tgt = 69 := by omega
              subst e2
              replace hK := x_neg (fun e => by rw [e] at hv; revert hv; decide) hK
              replace hK := x_neg (fun e => by rw [e] at hv; revert hv; decide) hK
              replace hK := x_neg (fun e => by rw [e] at hv; revert hv; decide) hK
              replace hK := x_neg (fun e => by rw [e] at hv; revert hv; decide) hK
              replace hK := x_pos (Int32.toInt_inj.mp (hv.trans rfl)) hK
              exact mx_L.sub (lv' := mx_nrm [0] [(0, .inr (.inl 0)), (1, .inl (.int a1))]) mx_nrm_mem ((xw156 n).2.2.2.2.1 _ hK)
            · rw [hv] at qo
              have eo : o = 76 := (Option.some.inj (qo.symm.trans (rfl : _ = some (76 : Int))))
              have e2 : tgt = 77 := by omega
              subst e2
              replace hK := x_neg (fun e => by rw [e] at hv; revert hv; decide) hK
              replace hK := x_neg (fun e => by rw [e] at hv; revert hv; decide) hK
              replace hK := x_neg (fun e => by rw [e] at hv; revert hv; decide) hK
              replace hK := x_neg (fun e => by rw [e] at hv; revert hv; decide) hK
              replace hK := x_neg (fun e => by rw [e] at hv; revert hv; decide) hK
              replace hK := x_pos (Int32.toInt_inj.mp (hv.trans rfl)) hK
              exact mx_L.sub (lv' := mx_nrm [0] [(0, .inr (.inl 0)), (1, .inl (.int a1))]) mx_nrm_mem ((xw156 n).2.2.2.2.2.1 _ hK))))
noncomputable def f173 (a0 : Int32) (a1 : Int32) (a2 : Int32) : Int32 := x_box (if a0 < a1 then (0 : Int32) else (if a2 < a0 then (0 : Int32) else (1 : Int32)))
theorem f173_eq (a0 : Int32) (a1 : Int32) (a2 : Int32) : f173 a0 a1 a2 = (if a0 < a1 then (0 : Int32) else (if a2 < a0 then (0 : Int32) else (1 : Int32))) := x_box_eq _
theorem x173 {E : mx_Ev} {n : Nat} {h : mx_H} {Q : Option mx_V → mx_H → Prop} {a0 : Int32} {a1 : Int32} {a2 : Int32} (hK : (xK_ip Q h) (f173 a0 a1 a2)) : mx_M E n 173 [.inl (.int a0), .inl (.int a1), .inl (.int a2)] h Q := by
  cases n with
  | zero => exact mx_L.zero
  | succ n => exact sl173_0 (x_use (x_eq (K := (xK_ip Q h)) (f173_eq a0 a1 a2) hK) (fun hK => (x_ite hK (fun hK => (fun _ => hK)) (fun hK => (x_ite hK (fun hK => (fun _ => hK)) (fun hK => (fun _ => hK)))))))
noncomputable def f174 (a0 : Int32) (a1 : Int32) : Int32 := x_box (if a1 ≤ a0 then (a1 : Int32) else (a0 : Int32))
theorem f174_eq (a0 : Int32) (a1 : Int32) : f174 a0 a1 = (if a1 ≤ a0 then (a1 : Int32) else (a0 : Int32)) := x_box_eq _
theorem x174 {E : mx_Ev} {n : Nat} {h : mx_H} {Q : Option mx_V → mx_H → Prop} {a0 : Int32} {a1 : Int32} (hK : (xK_ip Q h) (f174 a0 a1)) : mx_M E n 174 [.inl (.int a0), .inl (.int a1)] h Q := by
  cases n with
  | zero => exact mx_L.zero
  | succ n => exact sl174_0 (x_use (x_eq (K := (xK_ip Q h)) (f174_eq a0 a1) hK) (fun hK => (x_ite hK (fun hK => hK) (fun hK => hK))))
noncomputable def f175 (a0 : Int32) (a1 : Int32) : Int32 := x_box (if a0 ≤ a1 then (a1 : Int32) else (a0 : Int32))
theorem f175_eq (a0 : Int32) (a1 : Int32) : f175 a0 a1 = (if a0 ≤ a1 then (a1 : Int32) else (a0 : Int32)) := x_box_eq _
theorem x175 {E : mx_Ev} {n : Nat} {h : mx_H} {Q : Option mx_V → mx_H → Prop} {a0 : Int32} {a1 : Int32} (hK : (xK_ip Q h) (f175 a0 a1)) : mx_M E n 175 [.inl (.int a0), .inl (.int a1)] h Q := by
  cases n with
  | zero => exact mx_L.zero
  | succ n => exact sl175_0 (x_use (x_eq (K := (xK_ip Q h)) (f175_eq a0 a1) hK) (fun hK => (x_ite hK (fun hK => hK) (fun hK => hK))))
noncomputable def f176 (a0 : Int32) : Int32 := x_box (if 0 ≤ a0 then (a0 : Int32) else (-a0 : Int32))
theorem f176_eq (a0 : Int32) : f176 a0 = (if 0 ≤ a0 then (a0 : Int32) else (-a0 : Int32)) := x_box_eq _
theorem x176 {E : mx_Ev} {n : Nat} {h : mx_H} {Q : Option mx_V → mx_H → Prop} {a0 : Int32} (hK : (xK_ip Q h) (f176 a0)) : mx_M E n 176 [.inl (.int a0)] h Q := by
  cases n with
  | zero => exact mx_L.zero
  | succ n => exact sl176_0 (x_use (x_eq (K := (xK_ip Q h)) (f176_eq a0) hK) (fun hK => (x_ite hK (fun hK => hK) (fun hK => hK))))
noncomputable def f177 (a1 : Int32) (h : mx_H) : Int32 := x_box ((f173 a1 0 ((h.2.1 (.inl 105) 1) - 1)) : Int32)
theorem f177_eq (a1 : Int32) (h : mx_H) : f177 a1 h = ((f173 a1 0 ((h.2.1 (.inl 105) 1) - 1)) : Int32) := x_box_eq _
theorem x177 {E : mx_Ev} {n : Nat} {h : mx_H} {Q : Option mx_V → mx_H → Prop} {a1 : Int32} (hK : (xK_ip Q h) (f177 a1 h)) : mx_M E n 177 [.inr (.inl 105), .inl (.int a1)] h Q := by
  cases n with
  | zero => exact mx_L.zero
  | succ n => exact sl177_0 (x_use (x_eq (K := (xK_ip Q h)) (f177_eq a1 h) hK) (fun hK => (x173 (xh_i (fun _ => hK)))))
noncomputable def f178 (a1 : Int32) (a2 : Int32) (h : mx_H) : Int32 := x_box ((f173 a2 0 ((h.2.1 (.inl 106) (Int32.toNatClampNeg a1)) - 1)) : Int32)
theorem f178_eq (a1 : Int32) (a2 : Int32) (h : mx_H) : f178 a1 a2 h = ((f173 a2 0 ((h.2.1 (.inl 106) (Int32.toNatClampNeg a1)) - 1)) : Int32) := x_box_eq _
theorem x178 {E : mx_Ev} {n : Nat} {h : mx_H} {Q : Option mx_V → mx_H → Prop} {a1 : Int32} {a2 : Int32} (hK : (xK_ip Q h) (f178 a1 a2 h)) : mx_M E n 178 [.inr (.inl 105), .inl (.int a1), .inl (.int a2)] h Q := by
  cases n with
  | zero => exact mx_L.zero
  | succ n => exact sl178_0 (x_use (x_eq (K := (xK_ip Q h)) (f178_eq a1 a2 h) hK) (fun hK => (fun _ => (x173 (xh_i (fun _ => hK))))))
noncomputable def f179 (a0 : Int32) (a1 : Int32) (a2 : Int32) : Int32 := x_box (((36 * a0) + (6 * a1)) + a2 : Int32)
theorem f179_eq (a0 : Int32) (a1 : Int32) (a2 : Int32) : f179 a0 a1 a2 = (((36 * a0) + (6 * a1)) + a2 : Int32) := x_box_eq _
theorem x179 {E : mx_Ev} {n : Nat} {h : mx_H} {Q : Option mx_V → mx_H → Prop} {a0 : Int32} {a1 : Int32} {a2 : Int32} (hK : (xK_ip Q h) (f179 a0 a1 a2)) : mx_M E n 179 [.inl (.int a0), .inl (.int a1), .inl (.int a2)] h Q := by
  cases n with
  | zero => exact mx_L.zero
  | succ n => exact sl179_0 (x_use (x_eq (K := (xK_ip Q h)) (f179_eq a0 a1 a2) hK) (fun hK => hK))
noncomputable def f180 (a1 : Int32) (a2 : Int32) (a3 : Int32) (h : mx_H) : Int32 := x_box (if (h.2.1 (.inl 113) (Int32.toNatClampNeg (f179 a1 a2 a3))) ≤ 0 then (0 : Int32) else (1 : Int32))
theorem f180_eq (a1 : Int32) (a2 : Int32) (a3 : Int32) (h : mx_H) : f180 a1 a2 a3 h = (if (h.2.1 (.inl 113) (Int32.toNatClampNeg (f179 a1 a2 a3))) ≤ 0 then (0 : Int32) else (1 : Int32)) := x_box_eq _
theorem x180 {E : mx_Ev} {n : Nat} {h : mx_H} {Q : Option mx_V → mx_H → Prop} {a1 : Int32} {a2 : Int32} {a3 : Int32} (hK : (xK_ip Q h) (f180 a1 a2 a3 h)) : mx_M E n 180 [.inr (.inl 105), .inl (.int a1), .inl (.int a2), .inl (.int a3)] h Q := by
  cases n with
  | zero => exact mx_L.zero
  | succ n => exact sl180_0 (x_use (x_eq (K := (xK_ip Q h)) (f180_eq a1 a2 a3 h) hK) (fun hK => (x179 (xh_i (fun _ => (x_ite hK (fun hK => (fun _ => hK)) (fun hK => (fun _ => hK))))))))
noncomputable def b181 : ((Int32 × Int32 × Int32 × Int32 × Int32 × Int32 × Int32 × mx_H)) → ((Int32 × Int32 × Int32 × Int32 × Int32 × Int32 × Int32 × mx_H)) ⊕ (mx_H)
  | (a1, a2, a3, a4, a5, a6, a7, h) => (if 2 ≤ a7 then (Sum.inr h) else (if a7 ≠ 0 then (x_val (f179 a1 a3 a2) (fun x3 => (Sum.inl (a1, a2, a3, a4, a5, a6, (a7 + 1), mx_uI (mx_uI (mx_uI h (.inl 113) (Int32.toNatClampNeg x3) (a4 + 1)) (.inl 111) (Int32.toNatClampNeg x3) a5) (.inl 112) (Int32.toNatClampNeg x3) a6)))) else (x_val (f179 a1 a2 a3) (fun x6 => (Sum.inl (a1, a2, a3, a4, a5, a6, (a7 + 1), mx_uI (mx_uI (mx_uI h (.inl 113) (Int32.toNatClampNeg x6) (a4 + 1)) (.inl 111) (Int32.toNatClampNeg x6) a5) (.inl 112) (Int32.toNatClampNeg x6) a6))))))
noncomputable def g181_3 (a1 : Int32) (a2 : Int32) (a3 : Int32) (a4 : Int32) (a5 : Int32) (a6 : Int32) (a7 : Int32) (h : mx_H) : mx_H := ml_wh b181 (a1, a2, a3, a4, a5, a6, a7, h)
theorem g181_3_eq (a1 : Int32) (a2 : Int32) (a3 : Int32) (a4 : Int32) (a5 : Int32) (a6 : Int32) (a7 : Int32) (h : mx_H) : g181_3 a1 a2 a3 a4 a5 a6 a7 h = (if 2 ≤ a7 then h else (if a7 ≠ 0 then (x_val (f179 a1 a3 a2) (fun x3 => (g181_3 a1 a2 a3 a4 a5 a6 (a7 + 1) (mx_uI (mx_uI (mx_uI h (.inl 113) (Int32.toNatClampNeg x3) (a4 + 1)) (.inl 111) (Int32.toNatClampNeg x3) a5) (.inl 112) (Int32.toNatClampNeg x3) a6)))) else (x_val (f179 a1 a2 a3) (fun x6 => (g181_3 a1 a2 a3 a4 a5 a6 (a7 + 1) (mx_uI (mx_uI (mx_uI h (.inl 113) (Int32.toNatClampNeg x6) (a4 + 1)) (.inl 111) (Int32.toNatClampNeg x6) a5) (.inl 112) (Int32.toNatClampNeg x6) a6)))))) := by
  unfold g181_3
  rw [ml_wh_eq]
  simp only [b181, ml_go_ite, ml_go_l, ml_go_r, ml_go_opt, ml_go_let, ml_go_h, ml_go_val]
  try rfl
noncomputable def f181 (a1 : Int32) (a2 : Int32) (a3 : Int32) (a4 : Int32) (a5 : Int32) (a6 : Int32) (h : mx_H) : mx_H := x_box (g181_3 a1 a2 a3 a4 a5 a6 0 h)
theorem f181_eq (a1 : Int32) (a2 : Int32) (a3 : Int32) (a4 : Int32) (a5 : Int32) (a6 : Int32) (h : mx_H) : f181 a1 a2 a3 a4 a5 a6 h = (g181_3 a1 a2 a3 a4 a5 a6 0 h) := x_box_eq _
theorem xw181 {E : mx_Ev} {Q : Option mx_V → mx_H → Prop} : ∀ n : Nat, (∀ (a1 : Int32) (a2 : Int32) (a3 : Int32) (a4 : Int32) (a5 : Int32) (a6 : Int32) (a7 : Int32) (h : mx_H), (xK_v Q) (g181_3 a1 a2 a3 a4 a5 a6 a7 h) → mx_L E n 181 3 [(0, .inr (.inl 105)), (1, .inl (.int a1)), (2, .inl (.int a2)), (3, .inl (.int a3)), (4, .inl (.int a4)), (5, .inl (.int a5)), (6, .inl (.int a6)), (7, .inl (.int a7))] [] h Q)
  | 0 => fun _ _ _ _ _ _ _ _ _ => mx_L.zero
  | n + 1 => fun a1 a2 a3 a4 a5 a6 a7 h hK => sl181_3 (x_use (x_eq (K := (xK_v Q)) (g181_3_eq a1 a2 a3 a4 a5 a6 a7 h) hK) (fun hK => (x_ite hK (fun hK => hK) (fun hK => (x_ite hK (fun hK => (x179 (xh_i (x_valk hK (fun hK => (fun _ => (fun _ => (fun _ => ((xw181 n) _ _ _ _ _ _ _ _ hK))))))))) (fun hK => (x179 (xh_i (x_valk hK (fun hK => (fun _ => (fun _ => (fun _ => ((xw181 n) _ _ _ _ _ _ _ _ hK))))))))))))))
theorem x181 {E : mx_Ev} {n : Nat} {h : mx_H} {Q : Option mx_V → mx_H → Prop} {a1 : Int32} {a2 : Int32} {a3 : Int32} {a4 : Int32} {a5 : Int32} {a6 : Int32} (hK : (xK_v Q) (f181 a1 a2 a3 a4 a5 a6 h)) : mx_M E n 181 [.inr (.inl 105), .inl (.int a1), .inl (.int a2), .inl (.int a3), .inl (.int a4), .inl (.int a5), .inl (.int a6)] h Q := by
  cases n with
  | zero => exact mx_L.zero
  | succ n => exact sl181_0 (x_use (x_eq (K := (xK_v Q)) (f181_eq a1 a2 a3 a4 a5 a6 h) hK) (fun hK => ((xw181 n) _ _ _ _ _ _ _ _ hK)))
noncomputable def b182 : ((Int32 × Int32 × mx_H) ⊕ (Int32 × Int32 × mx_H)) → ((Int32 × Int32 × mx_H) ⊕ (Int32 × Int32 × mx_H)) ⊕ (mx_H)
  | (.inl (a1, a2, h)) => (if 6 ≤ a2 then (Sum.inl (.inr (a1, (36 * a1), h))) else (Sum.inl (.inl (a1, (a2 + 1), mx_uI (mx_uI (mx_uI (mx_uI h (.inl 107) (Int32.toNatClampNeg ((6 * a1) + a2)) 0) (.inl 108) (Int32.toNatClampNeg ((6 * a1) + a2)) 0) (.inl 109) (Int32.toNatClampNeg ((6 * a1) + a2)) 0) (.inl 110) (Int32.toNatClampNeg ((6 * a1) + a2)) (vp_nar .boolean 0)))))
  | (.inr (a1, a2, h)) => (if ((36 * a1) + 36) ≤ a2 then (Sum.inr h) else (Sum.inl (.inr (a1, (a2 + 1), mx_uI (mx_uI (mx_uI h (.inl 113) (Int32.toNatClampNeg a2) 0) (.inl 111) (Int32.toNatClampNeg a2) 0) (.inl 112) (Int32.toNatClampNeg a2) 0))))
noncomputable def g182_9 (a1 : Int32) (a2 : Int32) (h : mx_H) : mx_H := ml_wh b182 (.inl (a1, a2, h))
noncomputable def g182_74 (a1 : Int32) (a2 : Int32) (h : mx_H) : mx_H := ml_wh b182 (.inr (a1, a2, h))
theorem g182_9_eq (a1 : Int32) (a2 : Int32) (h : mx_H) : g182_9 a1 a2 h = (if 6 ≤ a2 then (g182_74 a1 (36 * a1) h) else (g182_9 a1 (a2 + 1) (mx_uI (mx_uI (mx_uI (mx_uI h (.inl 107) (Int32.toNatClampNeg ((6 * a1) + a2)) 0) (.inl 108) (Int32.toNatClampNeg ((6 * a1) + a2)) 0) (.inl 109) (Int32.toNatClampNeg ((6 * a1) + a2)) 0) (.inl 110) (Int32.toNatClampNeg ((6 * a1) + a2)) (vp_nar .boolean 0)))) := by
  unfold g182_9
  rw [ml_wh_eq]
  simp only [b182, ml_go_ite, ml_go_l, ml_go_r, ml_go_opt, ml_go_let, ml_go_h, ml_go_val]
  try rfl
theorem g182_74_eq (a1 : Int32) (a2 : Int32) (h : mx_H) : g182_74 a1 a2 h = (if ((36 * a1) + 36) ≤ a2 then h else (g182_74 a1 (a2 + 1) (mx_uI (mx_uI (mx_uI h (.inl 113) (Int32.toNatClampNeg a2) 0) (.inl 111) (Int32.toNatClampNeg a2) 0) (.inl 112) (Int32.toNatClampNeg a2) 0))) := by
  unfold g182_74
  rw [ml_wh_eq]
  simp only [b182, ml_go_ite, ml_go_l, ml_go_r, ml_go_opt, ml_go_let, ml_go_h, ml_go_val]
  try rfl
noncomputable def f182 (a1 : Int32) (h : mx_H) : mx_H := x_box (g182_9 a1 0 (mx_uI h (.inl 106) (Int32.toNatClampNeg a1) 0))
theorem f182_eq (a1 : Int32) (h : mx_H) : f182 a1 h = (g182_9 a1 0 (mx_uI h (.inl 106) (Int32.toNatClampNeg a1) 0)) := x_box_eq _
theorem xw182 {E : mx_Ev} {Q : Option mx_V → mx_H → Prop} : ∀ n : Nat, (∀ (a1 : Int32) (a2 : Int32) (h : mx_H), (xK_v Q) (g182_9 a1 a2 h) → mx_L E n 182 9 [(0, .inr (.inl 105)), (1, .inl (.int a1)), (2, .inl (.int a2))] [] h Q) ∧ (∀ (a1 : Int32) (a2 : Int32) (h : mx_H), (xK_v Q) (g182_74 a1 a2 h) → mx_L E n 182 74 [(0, .inr (.inl 105)), (1, .inl (.int a1)), (2, .inl (.int a2))] [] h Q)
  | 0 => ⟨fun _ _ _ _ => mx_L.zero, fun _ _ _ _ => mx_L.zero⟩
  | n + 1 => ⟨fun a1 a2 h hK => sl182_9 (x_use (x_eq (K := (xK_v Q)) (g182_9_eq a1 a2 h) hK) (fun hK => (x_ite hK (fun hK => ((xw182 n).2 _ _ _ hK)) (fun hK => (fun _ => (fun _ => (fun _ => (fun _ => ((xw182 n).1 _ _ _ hK))))))))), fun a1 a2 h hK => sl182_74 (x_use (x_eq (K := (xK_v Q)) (g182_74_eq a1 a2 h) hK) (fun hK => (x_ite hK (fun hK => hK) (fun hK => (fun _ => (fun _ => (fun _ => ((xw182 n).2 _ _ _ hK))))))))⟩
theorem x182 {E : mx_Ev} {n : Nat} {h : mx_H} {Q : Option mx_V → mx_H → Prop} {a1 : Int32} (hK : (xK_v Q) (f182 a1 h)) : mx_M E n 182 [.inr (.inl 105), .inl (.int a1)] h Q := by
  cases n with
  | zero => exact mx_L.zero
  | succ n => exact sl182_0 (x_use (x_eq (K := (xK_v Q)) (f182_eq a1 h) hK) (fun hK => (fun _ => ((xw182 n).1 _ _ _ hK))))
noncomputable def b183 : ((Int32 × Int32 × Int32 × mx_H) ⊕ (Int32 × Int32 × Int32 × Int32 × mx_H)) → ((Int32 × Int32 × Int32 × mx_H) ⊕ (Int32 × Int32 × Int32 × Int32 × mx_H)) ⊕ (Int32)
  | (.inl (a1, a2, a3, h)) => (if 6 ≤ a3 then (Sum.inr (a2 : Int32)) else (Sum.inl (.inr (a1, a2, a3, (a3 + 1), h))))
  | (.inr (a1, a2, a3, a4, h)) => (if 6 ≤ a4 then (Sum.inl (.inl (a1, a2, (a3 + 1), h))) else (if (f180 a1 a3 a4 h) = 0 then (Sum.inl (.inr (a1, (a2 + 0), a3, (a4 + 1), h))) else (Sum.inl (.inr (a1, (a2 + 1), a3, (a4 + 1), h)))))
noncomputable def g183_4 (a1 : Int32) (a2 : Int32) (a3 : Int32) (h : mx_H) : Int32 := ml_wh b183 (.inl (a1, a2, a3, h))
noncomputable def g183_15 (a1 : Int32) (a2 : Int32) (a3 : Int32) (a4 : Int32) (h : mx_H) : Int32 := ml_wh b183 (.inr (a1, a2, a3, a4, h))
theorem g183_4_eq (a1 : Int32) (a2 : Int32) (a3 : Int32) (h : mx_H) : g183_4 a1 a2 a3 h = (if 6 ≤ a3 then (a2 : Int32) else (g183_15 a1 a2 a3 (a3 + 1) h)) := by
  unfold g183_4
  rw [ml_wh_eq]
  simp only [b183, ml_go_ite, ml_go_l, ml_go_r, ml_go_opt, ml_go_let, ml_go_h, ml_go_val]
  try rfl
theorem g183_15_eq (a1 : Int32) (a2 : Int32) (a3 : Int32) (a4 : Int32) (h : mx_H) : g183_15 a1 a2 a3 a4 h = (if 6 ≤ a4 then (g183_4 a1 a2 (a3 + 1) h) else (if (f180 a1 a3 a4 h) = 0 then (g183_15 a1 (a2 + 0) a3 (a4 + 1) h) else (g183_15 a1 (a2 + 1) a3 (a4 + 1) h))) := by
  unfold g183_15
  rw [ml_wh_eq]
  simp only [b183, ml_go_ite, ml_go_l, ml_go_r, ml_go_opt, ml_go_let, ml_go_h, ml_go_val]
  try rfl
noncomputable def f183 (a1 : Int32) (h : mx_H) : Int32 := x_box (g183_4 a1 0 0 h)
theorem f183_eq (a1 : Int32) (h : mx_H) : f183 a1 h = (g183_4 a1 0 0 h) := x_box_eq _
theorem xw183 {E : mx_Ev} {Q : Option mx_V → mx_H → Prop} : ∀ n : Nat, (∀ (a1 : Int32) (a2 : Int32) (a3 : Int32) (h : mx_H), (xK_ip Q h) (g183_4 a1 a2 a3 h) → mx_L E n 183 4 [(0, .inr (.inl 105)), (1, .inl (.int a1)), (2, .inl (.int a2)), (3, .inl (.int a3))] [] h Q) ∧ (∀ (a1 : Int32) (a2 : Int32) (a3 : Int32) (a4 : Int32) (h : mx_H), (xK_ip Q h) (g183_15 a1 a2 a3 a4 h) → mx_L E n 183 15 [(0, .inr (.inl 105)), (1, .inl (.int a1)), (2, .inl (.int a2)), (3, .inl (.int a3)), (4, .inl (.int a4))] [] h Q)
  | 0 => ⟨fun _ _ _ _ _ => mx_L.zero, fun _ _ _ _ _ _ => mx_L.zero⟩
  | n + 1 => ⟨fun a1 a2 a3 h hK => sl183_4 (x_use (x_eq (K := (xK_ip Q h)) (g183_4_eq a1 a2 a3 h) hK) (fun hK => (x_ite hK (fun hK => hK) (fun hK => ((xw183 n).2 _ _ _ _ _ hK))))), fun a1 a2 a3 a4 h hK => sl183_15 (x_use (x_eq (K := (xK_ip Q h)) (g183_15_eq a1 a2 a3 a4 h) hK) (fun hK => (x_ite hK (fun hK => ((xw183 n).1 _ _ _ _ hK)) (fun hK => (x180 (xh_i (x_ite hK (fun hK => ((xw183 n).2 _ _ _ _ _ hK)) (fun hK => ((xw183 n).2 _ _ _ _ _ hK)))))))))⟩
theorem x183 {E : mx_Ev} {n : Nat} {h : mx_H} {Q : Option mx_V → mx_H → Prop} {a1 : Int32} (hK : (xK_ip Q h) (f183 a1 h)) : mx_M E n 183 [.inr (.inl 105), .inl (.int a1)] h Q := by
  cases n with
  | zero => exact mx_L.zero
  | succ n => exact sl183_0 (x_use (x_eq (K := (xK_ip Q h)) (f183_eq a1 h) hK) (fun hK => ((xw183 n).1 _ _ _ _ hK)))
noncomputable def b184 : ((Int32 × Int32 × Int32 × mx_H)) → ((Int32 × Int32 × Int32 × mx_H)) ⊕ (Int32 × mx_H)
  | (a1, a2, a3, h) => (if a1 ≤ a3 then (Sum.inr ((h.2.1 (.inl 105) 16 : Int32), h)) else (Sum.inl (a1, a2, (a3 + 1), mx_uI (mx_uI h (.inl 118) (Int32.toNatClampNeg (h.2.1 (.inl 105) 16)) (vp_nar .byte ((Int32.toInt8 (a2 >>> ((8 * a3) &&& 31))).toInt32))) (.inl 105) 16 (((mx_uI h (.inl 118) (Int32.toNatClampNeg (h.2.1 (.inl 105) 16)) (vp_nar .byte ((Int32.toInt8 (a2 >>> ((8 * a3) &&& 31))).toInt32))).2.1 (.inl 105) 16) + 1))))
noncomputable def g184_27 (a1 : Int32) (a2 : Int32) (a3 : Int32) (h : mx_H) : Int32 × mx_H := ml_wh b184 (a1, a2, a3, h)
theorem g184_27_eq (a1 : Int32) (a2 : Int32) (a3 : Int32) (h : mx_H) : g184_27 a1 a2 a3 h = (if a1 ≤ a3 then ((h.2.1 (.inl 105) 16 : Int32), h) else (g184_27 a1 a2 (a3 + 1) (mx_uI (mx_uI h (.inl 118) (Int32.toNatClampNeg (h.2.1 (.inl 105) 16)) (vp_nar .byte ((Int32.toInt8 (a2 >>> ((8 * a3) &&& 31))).toInt32))) (.inl 105) 16 (((mx_uI h (.inl 118) (Int32.toNatClampNeg (h.2.1 (.inl 105) 16)) (vp_nar .byte ((Int32.toInt8 (a2 >>> ((8 * a3) &&& 31))).toInt32))).2.1 (.inl 105) 16) + 1)))) := by
  unfold g184_27
  rw [ml_wh_eq]
  simp only [b184, ml_go_ite, ml_go_l, ml_go_r, ml_go_opt, ml_go_let, ml_go_h, ml_go_val]
  try rfl
noncomputable def f184 (a1 : Int32) (a2 : Int32) (h : mx_H) : Int32 × mx_H := x_box (if (f173 a1 1 4) ≠ 0 then (if ((h.2.1 (.inl 105) 16) + a1) ≤ 120 then (g184_27 a1 a2 0 h) else (((-3) : Int32), h)) else (((-1) : Int32), h))
theorem f184_eq (a1 : Int32) (a2 : Int32) (h : mx_H) : f184 a1 a2 h = (if (f173 a1 1 4) ≠ 0 then (if ((h.2.1 (.inl 105) 16) + a1) ≤ 120 then (g184_27 a1 a2 0 h) else (((-3) : Int32), h)) else (((-1) : Int32), h)) := x_box_eq _
theorem xw184 {E : mx_Ev} {Q : Option mx_V → mx_H → Prop} : ∀ n : Nat, (∀ (a1 : Int32) (a2 : Int32) (a3 : Int32) (h : mx_H), (xK_i Q) (g184_27 a1 a2 a3 h) → mx_L E n 184 27 [(0, .inr (.inl 105)), (1, .inl (.int a1)), (2, .inl (.int a2)), (3, .inl (.int a3))] [] h Q)
  | 0 => fun _ _ _ _ _ => mx_L.zero
  | n + 1 => fun a1 a2 a3 h hK => sl184_27 (x_use (x_eq (K := (xK_i Q)) (g184_27_eq a1 a2 a3 h) hK) (fun hK => (x_ite hK (fun hK => hK) (fun hK => (fun _ => ((xw184 n) _ _ _ _ hK))))))
theorem x184 {E : mx_Ev} {n : Nat} {h : mx_H} {Q : Option mx_V → mx_H → Prop} {a1 : Int32} {a2 : Int32} (hK : (xK_i Q) (f184 a1 a2 h)) : mx_M E n 184 [.inr (.inl 105), .inl (.int a1), .inl (.int a2)] h Q := by
  cases n with
  | zero => exact mx_L.zero
  | succ n => exact sl184_0 (x_use (x_eq (K := (xK_i Q)) (f184_eq a1 a2 h) hK) (fun hK => (x173 (xh_i (x_ite hK (fun hK => (x_ite hK (fun hK => ((xw184 n) _ _ _ _ hK)) (fun hK => hK))) (fun hK => hK))))))
noncomputable def f185  (h : mx_H) : Int32 := x_box (if (h.2.1 (.inl 105) 16) ≤ (h.2.1 (.inl 105) 17) then ((-1) : Int32) else (h.2.1 (.inl 118) (Int32.toNatClampNeg (h.2.1 (.inl 105) 17)) : Int32))
theorem f185_eq  (h : mx_H) : f185  h = (if (h.2.1 (.inl 105) 16) ≤ (h.2.1 (.inl 105) 17) then ((-1) : Int32) else (h.2.1 (.inl 118) (Int32.toNatClampNeg (h.2.1 (.inl 105) 17)) : Int32)) := x_box_eq _
theorem x185 {E : mx_Ev} {n : Nat} {h : mx_H} {Q : Option mx_V → mx_H → Prop} (hK : (xK_ip Q h) (f185  h)) : mx_M E n 185 [.inr (.inl 105)] h Q := by
  cases n with
  | zero => exact mx_L.zero
  | succ n => exact sl185_0 (x_use (x_eq (K := (xK_ip Q h)) (f185_eq  h) hK) (fun hK => (x_ite hK (fun hK => hK) (fun hK => (fun _ => hK)))))
noncomputable def f186  (h : mx_H) : mx_H := x_box (if 0 ≤ (h.2.1 (.inl 105) 18) then h else (mx_uI h (.inl 105) 18 (h.2.1 (.inl 105) 17)))
theorem f186_eq  (h : mx_H) : f186  h = (if 0 ≤ (h.2.1 (.inl 105) 18) then h else (mx_uI h (.inl 105) 18 (h.2.1 (.inl 105) 17))) := x_box_eq _
theorem x186 {E : mx_Ev} {n : Nat} {h : mx_H} {Q : Option mx_V → mx_H → Prop} (hK : (xK_v Q) (f186  h)) : mx_M E n 186 [.inr (.inl 105)] h Q := by
  cases n with
  | zero => exact mx_L.zero
  | succ n => exact sl186_0 (x_use (x_eq (K := (xK_v Q)) (f186_eq  h) hK) (fun hK => (x_ite hK (fun hK => hK) (fun hK => hK))))
noncomputable def f187  (h : mx_H) : Int32 := x_box ((f173 (f185 h) 49 57) : Int32)
theorem f187_eq  (h : mx_H) : f187  h = ((f173 (f185 h) 49 57) : Int32) := x_box_eq _
theorem x187 {E : mx_Ev} {n : Nat} {h : mx_H} {Q : Option mx_V → mx_H → Prop} (hK : (xK_ip Q h) (f187  h)) : mx_M E n 187 [.inr (.inl 105)] h Q := by
  cases n with
  | zero => exact mx_L.zero
  | succ n => exact sl187_0 (x_use (x_eq (K := (xK_ip Q h)) (f187_eq  h) hK) (fun hK => (x185 (xh_i (x173 (xh_i (fun _ => hK)))))))
noncomputable def f188  (h : mx_H) : Int32 × mx_H := x_box (if (f187 h) ≠ 0 then (((f185 h) - 48 : Int32), mx_uI h (.inl 105) 17 ((h.2.1 (.inl 105) 17) + 1)) else (x_h (f186 h) (fun h8 => ((0 : Int32), h8))))
theorem f188_eq  (h : mx_H) : f188  h = (if (f187 h) ≠ 0 then (((f185 h) - 48 : Int32), mx_uI h (.inl 105) 17 ((h.2.1 (.inl 105) 17) + 1)) else (x_h (f186 h) (fun h8 => ((0 : Int32), h8)))) := x_box_eq _
theorem x188 {E : mx_Ev} {n : Nat} {h : mx_H} {Q : Option mx_V → mx_H → Prop} (hK : (xK_i Q) (f188  h)) : mx_M E n 188 [.inr (.inl 105)] h Q := by
  cases n with
  | zero => exact mx_L.zero
  | succ n => exact sl188_0 (x_use (x_eq (K := (xK_i Q)) (f188_eq  h) hK) (fun hK => (x187 (xh_i (x_ite hK (fun hK => (x185 (xh_i hK))) (fun hK => (x186 (xh_n (x_hk hK (fun hK => hK))))))))))
noncomputable def f189  (h : mx_H) : Int32 := x_box (x_val (f185 h) (fun x3 => (if (f178 (h.2.1 (.inl 105) 1) (x3 - 97) h) = 0 then ((-1) : Int32) else (x3 - 97 : Int32))))
theorem f189_eq  (h : mx_H) : f189  h = (x_val (f185 h) (fun x3 => (if (f178 (h.2.1 (.inl 105) 1) (x3 - 97) h) = 0 then ((-1) : Int32) else (x3 - 97 : Int32)))) := x_box_eq _
theorem x189 {E : mx_Ev} {n : Nat} {h : mx_H} {Q : Option mx_V → mx_H → Prop} (hK : (xK_ip Q h) (f189  h)) : mx_M E n 189 [.inr (.inl 105)] h Q := by
  cases n with
  | zero => exact mx_L.zero
  | succ n => exact sl189_0 (x_use (x_eq (K := (xK_ip Q h)) (f189_eq  h) hK) (fun hK => (x185 (xh_i (x_valk hK (fun hK => (x178 (xh_i (x_ite hK (fun hK => hK) (fun hK => hK))))))))))
noncomputable def f190  (h : mx_H) : mx_H := x_box (x_val (f189 h) (fun x3 => (if 0 ≤ x3 then (x_val (f189 (mx_uI h (.inl 105) 17 ((h.2.1 (.inl 105) 17) + 1))) (fun x6 => (if x6 < 0 then (x_h (f186 (mx_uI h (.inl 105) 17 ((h.2.1 (.inl 105) 17) + 1))) (fun h8 => h8)) else (if x6 = x3 then (x_h (f186 (mx_uI h (.inl 105) 17 ((h.2.1 (.inl 105) 17) + 1))) (fun h10 => h10)) else (if (f180 ((mx_uI h (.inl 105) 17 ((h.2.1 (.inl 105) 17) + 1)).2.1 (.inl 105) 1) x3 x6 (mx_uI h (.inl 105) 17 ((h.2.1 (.inl 105) 17) + 1))) = 0 then (x_let (f188 (mx_uI (mx_uI h (.inl 105) 17 ((h.2.1 (.inl 105) 17) + 1)) (.inl 105) 17 (((mx_uI h (.inl 105) 17 ((h.2.1 (.inl 105) 17) + 1)).2.1 (.inl 105) 17) + 1))) (fun x16 h15 => (if (h15.2.1 (.inl 105) 18) < 0 then (x_h (f181 (h15.2.1 (.inl 105) 1) x3 x6 0 x16 0 h15) (fun h18 => (mx_uI (mx_uI (mx_uI h18 (.inl 119) (Int32.toNatClampNeg (h18.2.1 (.inl 105) 19)) x3) (.inl 120) (Int32.toNatClampNeg ((mx_uI h18 (.inl 119) (Int32.toNatClampNeg (h18.2.1 (.inl 105) 19)) x3).2.1 (.inl 105) 19)) x6) (.inl 105) 19 (((mx_uI (mx_uI h18 (.inl 119) (Int32.toNatClampNeg (h18.2.1 (.inl 105) 19)) x3) (.inl 120) (Int32.toNatClampNeg ((mx_uI h18 (.inl 119) (Int32.toNatClampNeg (h18.2.1 (.inl 105) 19)) x3).2.1 (.inl 105) 19)) x6).2.1 (.inl 105) 19) + 1)))) else h15))) else (x_h (f186 (mx_uI h (.inl 105) 17 ((h.2.1 (.inl 105) 17) + 1))) (fun h20 => h20))))))) else (x_h (f186 h) (fun h22 => h22)))))
theorem f190_eq  (h : mx_H) : f190  h = (x_val (f189 h) (fun x3 => (if 0 ≤ x3 then (x_val (f189 (mx_uI h (.inl 105) 17 ((h.2.1 (.inl 105) 17) + 1))) (fun x6 => (if x6 < 0 then (x_h (f186 (mx_uI h (.inl 105) 17 ((h.2.1 (.inl 105) 17) + 1))) (fun h8 => h8)) else (if x6 = x3 then (x_h (f186 (mx_uI h (.inl 105) 17 ((h.2.1 (.inl 105) 17) + 1))) (fun h10 => h10)) else (if (f180 ((mx_uI h (.inl 105) 17 ((h.2.1 (.inl 105) 17) + 1)).2.1 (.inl 105) 1) x3 x6 (mx_uI h (.inl 105) 17 ((h.2.1 (.inl 105) 17) + 1))) = 0 then (x_let (f188 (mx_uI (mx_uI h (.inl 105) 17 ((h.2.1 (.inl 105) 17) + 1)) (.inl 105) 17 (((mx_uI h (.inl 105) 17 ((h.2.1 (.inl 105) 17) + 1)).2.1 (.inl 105) 17) + 1))) (fun x16 h15 => (if (h15.2.1 (.inl 105) 18) < 0 then (x_h (f181 (h15.2.1 (.inl 105) 1) x3 x6 0 x16 0 h15) (fun h18 => (mx_uI (mx_uI (mx_uI h18 (.inl 119) (Int32.toNatClampNeg (h18.2.1 (.inl 105) 19)) x3) (.inl 120) (Int32.toNatClampNeg ((mx_uI h18 (.inl 119) (Int32.toNatClampNeg (h18.2.1 (.inl 105) 19)) x3).2.1 (.inl 105) 19)) x6) (.inl 105) 19 (((mx_uI (mx_uI h18 (.inl 119) (Int32.toNatClampNeg (h18.2.1 (.inl 105) 19)) x3) (.inl 120) (Int32.toNatClampNeg ((mx_uI h18 (.inl 119) (Int32.toNatClampNeg (h18.2.1 (.inl 105) 19)) x3).2.1 (.inl 105) 19)) x6).2.1 (.inl 105) 19) + 1)))) else h15))) else (x_h (f186 (mx_uI h (.inl 105) 17 ((h.2.1 (.inl 105) 17) + 1))) (fun h20 => h20))))))) else (x_h (f186 h) (fun h22 => h22))))) := x_box_eq _
theorem x190 {E : mx_Ev} {n : Nat} {h : mx_H} {Q : Option mx_V → mx_H → Prop} (hK : (xK_v Q) (f190  h)) : mx_M E n 190 [.inr (.inl 105)] h Q := by
  cases n with
  | zero => exact mx_L.zero
  | succ n => exact sl190_0 (x_use (x_eq (K := (xK_v Q)) (f190_eq  h) hK) (fun hK => (x189 (xh_i (x_valk hK (fun hK => (x_ite hK (fun hK => (x189 (xh_i (x_valk hK (fun hK => (x_ite hK (fun hK => (x186 (xh_n (x_hk hK (fun hK => hK))))) (fun hK => (x_ite hK (fun hK => (x186 (xh_n (x_hk hK (fun hK => hK))))) (fun hK => (x180 (xh_i (x_ite hK (fun hK => (x188 (xh_i (x_letk hK (fun hK => (x_ite hK (fun hK => (x181 (xh_n (x_hk hK (fun hK => (fun _ => (fun _ => hK))))))) (fun hK => hK))))))) (fun hK => (x186 (xh_n (x_hk hK (fun hK => hK))))))))))))))))) (fun hK => (x186 (xh_n (x_hk hK (fun hK => hK))))))))))))
noncomputable def b191 : ((Int32 × mx_H) ⊕ (Int32 × Int32 × mx_H) ⊕ (Int32 × Int32 × mx_H) ⊕ (mx_H)) → ((Int32 × mx_H) ⊕ (Int32 × Int32 × mx_H) ⊕ (Int32 × Int32 × mx_H) ⊕ (mx_H)) ⊕ (mx_H)
  | (.inl (a1, h)) => (if a1 ≠ 112 then (x_val (f189 (mx_uI h (.inl 105) 17 ((h.2.1 (.inl 105) 17) + 1))) (fun x3 => (if x3 < 0 then (Sum.inl (.inr (.inr (.inl (a1, x3, (mx_uI h (.inl 105) 17 ((h.2.1 (.inl 105) 17) + 1))))))) else (if a1 ≠ 115 then (if a1 ≠ 119 then (if ((mx_uI h (.inl 105) 17 ((h.2.1 (.inl 105) 17) + 1)).2.1 (.inl 110) (Int32.toNatClampNeg ((6 * ((mx_uI h (.inl 105) 17 ((h.2.1 (.inl 105) 17) + 1)).2.1 (.inl 105) 1)) + x3))) = 0 then (Sum.inl (.inr (.inr (.inl (a1, x3, (mx_uI h (.inl 105) 17 ((h.2.1 (.inl 105) 17) + 1))))))) else (Sum.inl (.inr (.inl (a1, x3, (mx_uI h (.inl 105) 17 ((h.2.1 (.inl 105) 17) + 1))))))) else (if ((mx_uI h (.inl 105) 17 ((h.2.1 (.inl 105) 17) + 1)).2.1 (.inl 122) (Int32.toNatClampNeg x3)) = 0 then (Sum.inl (.inr (.inr (.inl (a1, x3, (mx_uI h (.inl 105) 17 ((h.2.1 (.inl 105) 17) + 1))))))) else (Sum.inl (.inr (.inl (a1, x3, (mx_uI h (.inl 105) 17 ((h.2.1 (.inl 105) 17) + 1)))))))) else (if ((mx_uI h (.inl 105) 17 ((h.2.1 (.inl 105) 17) + 1)).2.1 (.inl 121) (Int32.toNatClampNeg x3)) = 0 then (Sum.inl (.inr (.inr (.inl (a1, x3, (mx_uI h (.inl 105) 17 ((h.2.1 (.inl 105) 17) + 1))))))) else (Sum.inl (.inr (.inl (a1, x3, (mx_uI h (.inl 105) 17 ((h.2.1 (.inl 105) 17) + 1))))))))))) else (x_h (f190 (mx_uI h (.inl 105) 17 ((h.2.1 (.inl 105) 17) + 1))) (fun h5 => (Sum.inr h5))))
  | (.inr (.inl (a1, a2, h))) => (if a2 < 0 then (Sum.inl (.inr (.inr (.inr h)))) else (if (1 : Int32) = 0 then (if a1 ≠ 104 then (x_let (f188 (mx_uI h (.inl 105) 17 ((h.2.1 (.inl 105) 17) + 1))) (fun x3 h2 => (if (h2.2.1 (.inl 105) 18) < 0 then (if a1 ≠ 115 then (Sum.inr (mx_uI (mx_uI h2 (.inl 109) (Int32.toNatClampNeg ((6 * ((mx_uI h (.inl 105) 17 ((h.2.1 (.inl 105) 17) + 1)).2.1 (.inl 105) 1)) + a2)) x3) (.inl 122) (Int32.toNatClampNeg a2) (vp_nar .boolean 1))) else (Sum.inr (mx_uI (mx_uI h2 (.inl 108) (Int32.toNatClampNeg ((6 * ((mx_uI h (.inl 105) 17 ((h.2.1 (.inl 105) 17) + 1)).2.1 (.inl 105) 1)) + a2)) x3) (.inl 121) (Int32.toNatClampNeg a2) (vp_nar .boolean 1)))) else (Sum.inr h2)))) else (Sum.inr (mx_uI (mx_uI h (.inl 105) 17 ((h.2.1 (.inl 105) 17) + 1)) (.inl 110) (Int32.toNatClampNeg ((6 * ((mx_uI h (.inl 105) 17 ((h.2.1 (.inl 105) 17) + 1)).2.1 (.inl 105) 1)) + a2)) (vp_nar .boolean 1)))) else (Sum.inl (.inr (.inr (.inr h))))))
  | (.inr (.inr (.inl (a1, a2, h)))) => (if a2 < 0 then (Sum.inl (.inr (.inr (.inr h)))) else (if (0 : Int32) = 0 then (if a1 ≠ 104 then (x_let (f188 (mx_uI h (.inl 105) 17 ((h.2.1 (.inl 105) 17) + 1))) (fun x3 h2 => (if (h2.2.1 (.inl 105) 18) < 0 then (if a1 ≠ 115 then (Sum.inr (mx_uI (mx_uI h2 (.inl 109) (Int32.toNatClampNeg ((6 * ((mx_uI h (.inl 105) 17 ((h.2.1 (.inl 105) 17) + 1)).2.1 (.inl 105) 1)) + a2)) x3) (.inl 122) (Int32.toNatClampNeg a2) (vp_nar .boolean 1))) else (Sum.inr (mx_uI (mx_uI h2 (.inl 108) (Int32.toNatClampNeg ((6 * ((mx_uI h (.inl 105) 17 ((h.2.1 (.inl 105) 17) + 1)).2.1 (.inl 105) 1)) + a2)) x3) (.inl 121) (Int32.toNatClampNeg a2) (vp_nar .boolean 1)))) else (Sum.inr h2)))) else (Sum.inr (mx_uI (mx_uI h (.inl 105) 17 ((h.2.1 (.inl 105) 17) + 1)) (.inl 110) (Int32.toNatClampNeg ((6 * ((mx_uI h (.inl 105) 17 ((h.2.1 (.inl 105) 17) + 1)).2.1 (.inl 105) 1)) + a2)) (vp_nar .boolean 1)))) else (Sum.inl (.inr (.inr (.inr h))))))
  | (.inr (.inr (.inr h))) => (x_h (f186 h) (fun h2 => (Sum.inr h2)))
noncomputable def g191_34 (a1 : Int32) (h : mx_H) : mx_H := ml_wh b191 (.inl (a1, h))
noncomputable def g191_117 (a1 : Int32) (a2 : Int32) (h : mx_H) : mx_H := ml_wh b191 (.inr (.inl (a1, a2, h)))
noncomputable def g191_121 (a1 : Int32) (a2 : Int32) (h : mx_H) : mx_H := ml_wh b191 (.inr (.inr (.inl (a1, a2, h))))
noncomputable def g191_131  (h : mx_H) : mx_H := ml_wh b191 (.inr (.inr (.inr h)))
theorem g191_34_eq (a1 : Int32) (h : mx_H) : g191_34 a1 h = (if a1 ≠ 112 then (x_val (f189 (mx_uI h (.inl 105) 17 ((h.2.1 (.inl 105) 17) + 1))) (fun x3 => (if x3 < 0 then (g191_121 a1 x3 (mx_uI h (.inl 105) 17 ((h.2.1 (.inl 105) 17) + 1))) else (if a1 ≠ 115 then (if a1 ≠ 119 then (if ((mx_uI h (.inl 105) 17 ((h.2.1 (.inl 105) 17) + 1)).2.1 (.inl 110) (Int32.toNatClampNeg ((6 * ((mx_uI h (.inl 105) 17 ((h.2.1 (.inl 105) 17) + 1)).2.1 (.inl 105) 1)) + x3))) = 0 then (g191_121 a1 x3 (mx_uI h (.inl 105) 17 ((h.2.1 (.inl 105) 17) + 1))) else (g191_117 a1 x3 (mx_uI h (.inl 105) 17 ((h.2.1 (.inl 105) 17) + 1)))) else (if ((mx_uI h (.inl 105) 17 ((h.2.1 (.inl 105) 17) + 1)).2.1 (.inl 122) (Int32.toNatClampNeg x3)) = 0 then (g191_121 a1 x3 (mx_uI h (.inl 105) 17 ((h.2.1 (.inl 105) 17) + 1))) else (g191_117 a1 x3 (mx_uI h (.inl 105) 17 ((h.2.1 (.inl 105) 17) + 1))))) else (if ((mx_uI h (.inl 105) 17 ((h.2.1 (.inl 105) 17) + 1)).2.1 (.inl 121) (Int32.toNatClampNeg x3)) = 0 then (g191_121 a1 x3 (mx_uI h (.inl 105) 17 ((h.2.1 (.inl 105) 17) + 1))) else (g191_117 a1 x3 (mx_uI h (.inl 105) 17 ((h.2.1 (.inl 105) 17) + 1)))))))) else (x_h (f190 (mx_uI h (.inl 105) 17 ((h.2.1 (.inl 105) 17) + 1))) (fun h5 => h5))) := by
  unfold g191_34
  rw [ml_wh_eq]
  simp only [b191, ml_go_ite, ml_go_l, ml_go_r, ml_go_opt, ml_go_let, ml_go_h, ml_go_val]
  try rfl
theorem g191_117_eq (a1 : Int32) (a2 : Int32) (h : mx_H) : g191_117 a1 a2 h = (if a2 < 0 then (g191_131  h) else (if (1 : Int32) = 0 then (if a1 ≠ 104 then (x_let (f188 (mx_uI h (.inl 105) 17 ((h.2.1 (.inl 105) 17) + 1))) (fun x3 h2 => (if (h2.2.1 (.inl 105) 18) < 0 then (if a1 ≠ 115 then (mx_uI (mx_uI h2 (.inl 109) (Int32.toNatClampNeg ((6 * ((mx_uI h (.inl 105) 17 ((h.2.1 (.inl 105) 17) + 1)).2.1 (.inl 105) 1)) + a2)) x3) (.inl 122) (Int32.toNatClampNeg a2) (vp_nar .boolean 1)) else (mx_uI (mx_uI h2 (.inl 108) (Int32.toNatClampNeg ((6 * ((mx_uI h (.inl 105) 17 ((h.2.1 (.inl 105) 17) + 1)).2.1 (.inl 105) 1)) + a2)) x3) (.inl 121) (Int32.toNatClampNeg a2) (vp_nar .boolean 1))) else h2))) else (mx_uI (mx_uI h (.inl 105) 17 ((h.2.1 (.inl 105) 17) + 1)) (.inl 110) (Int32.toNatClampNeg ((6 * ((mx_uI h (.inl 105) 17 ((h.2.1 (.inl 105) 17) + 1)).2.1 (.inl 105) 1)) + a2)) (vp_nar .boolean 1))) else (g191_131  h))) := by
  unfold g191_117
  rw [ml_wh_eq]
  simp only [b191, ml_go_ite, ml_go_l, ml_go_r, ml_go_opt, ml_go_let, ml_go_h, ml_go_val]
  try rfl
theorem g191_121_eq (a1 : Int32) (a2 : Int32) (h : mx_H) : g191_121 a1 a2 h = (if a2 < 0 then (g191_131  h) else (if (0 : Int32) = 0 then (if a1 ≠ 104 then (x_let (f188 (mx_uI h (.inl 105) 17 ((h.2.1 (.inl 105) 17) + 1))) (fun x3 h2 => (if (h2.2.1 (.inl 105) 18) < 0 then (if a1 ≠ 115 then (mx_uI (mx_uI h2 (.inl 109) (Int32.toNatClampNeg ((6 * ((mx_uI h (.inl 105) 17 ((h.2.1 (.inl 105) 17) + 1)).2.1 (.inl 105) 1)) + a2)) x3) (.inl 122) (Int32.toNatClampNeg a2) (vp_nar .boolean 1)) else (mx_uI (mx_uI h2 (.inl 108) (Int32.toNatClampNeg ((6 * ((mx_uI h (.inl 105) 17 ((h.2.1 (.inl 105) 17) + 1)).2.1 (.inl 105) 1)) + a2)) x3) (.inl 121) (Int32.toNatClampNeg a2) (vp_nar .boolean 1))) else h2))) else (mx_uI (mx_uI h (.inl 105) 17 ((h.2.1 (.inl 105) 17) + 1)) (.inl 110) (Int32.toNatClampNeg ((6 * ((mx_uI h (.inl 105) 17 ((h.2.1 (.inl 105) 17) + 1)).2.1 (.inl 105) 1)) + a2)) (vp_nar .boolean 1))) else (g191_131  h))) := by
  unfold g191_121
  rw [ml_wh_eq]
  simp only [b191, ml_go_ite, ml_go_l, ml_go_r, ml_go_opt, ml_go_let, ml_go_h, ml_go_val]
  try rfl
theorem g191_131_eq  (h : mx_H) : g191_131  h = (x_h (f186 h) (fun h2 => h2)) := by
  unfold g191_131
  rw [ml_wh_eq]
  simp only [b191, ml_go_ite, ml_go_l, ml_go_r, ml_go_opt, ml_go_let, ml_go_h, ml_go_val]
  try rfl
noncomputable def f191  (h : mx_H) : mx_H := x_box (x_val (f185 h) (fun x3 => (if x3 = 112 then (g191_34 x3 h) else (if x3 = 115 then (g191_34 x3 h) else (if x3 = 104 then (g191_34 x3 h) else (if x3 = 119 then (g191_34 x3 h) else (x_h (f186 h) (fun h5 => h5))))))))
theorem f191_eq  (h : mx_H) : f191  h = (x_val (f185 h) (fun x3 => (if x3 = 112 then (g191_34 x3 h) else (if x3 = 115 then (g191_34 x3 h) else (if x3 = 104 then (g191_34 x3 h) else (if x3 = 119 then (g191_34 x3 h) else (x_h (f186 h) (fun h5 => h5)))))))) := x_box_eq _
theorem xw191 {E : mx_Ev} {Q : Option mx_V → mx_H → Prop} : ∀ n : Nat, (∀ (a1 : Int32) (h : mx_H), (xK_v Q) (g191_34 a1 h) → mx_L E n 191 34 [(0, .inr (.inl 105)), (1, .inl (.int a1))] [] h Q) ∧ (∀ (a1 : Int32) (a2 : Int32) (h : mx_H), (xK_v Q) (g191_117 a1 a2 h) → mx_L E n 191 117 [(0, .inr (.inl 105)), (1, .inl (.int a1)), (2, .inl (.int a2))] [] h Q) ∧ (∀ (a1 : Int32) (a2 : Int32) (h : mx_H), (xK_v Q) (g191_121 a1 a2 h) → mx_L E n 191 121 [(0, .inr (.inl 105)), (1, .inl (.int a1)), (2, .inl (.int a2))] [] h Q) ∧ (∀ (h : mx_H), (xK_v Q) (g191_131  h) → mx_L E n 191 131 [(0, .inr (.inl 105))] [] h Q)
  | 0 => ⟨fun _ _ _ => mx_L.zero, fun _ _ _ _ => mx_L.zero, fun _ _ _ _ => mx_L.zero, fun _ _ => mx_L.zero⟩
  | n + 1 => ⟨fun a1 h hK => sl191_34 (x_use (x_eq (K := (xK_v Q)) (g191_34_eq a1 h) hK) (fun hK => (x_ite hK (fun hK => (x189 (xh_i (x_valk hK (fun hK => (x_ite hK (fun hK => ((xw191 n).2.2.1 _ _ _ hK)) (fun hK => (x_ite hK (fun hK => (x_ite hK (fun hK => (fun _ => (x_ite hK (fun hK => ((xw191 n).2.2.1 _ _ _ hK)) (fun hK => ((xw191 n).2.1 _ _ _ hK))))) (fun hK => (fun _ => (x_ite hK (fun hK => ((xw191 n).2.2.1 _ _ _ hK)) (fun hK => ((xw191 n).2.1 _ _ _ hK))))))) (fun hK => (fun _ => (x_ite hK (fun hK => ((xw191 n).2.2.1 _ _ _ hK)) (fun hK => ((xw191 n).2.1 _ _ _ hK))))))))))))) (fun hK => (x190 (xh_n (x_hk hK (fun hK => hK)))))))), fun a1 a2 h hK => sl191_117 (x_use (x_eq (K := (xK_v Q)) (g191_117_eq a1 a2 h) hK) (fun hK => (x_ite hK (fun hK => ((xw191 n).2.2.2 _ hK)) (fun hK => (x_ite hK (fun hK => (x_ite hK (fun hK => (x188 (xh_i (x_letk hK (fun hK => (x_ite hK (fun hK => (x_ite hK (fun hK => (fun _ => (fun _ => hK))) (fun hK => (fun _ => (fun _ => hK))))) (fun hK => hK))))))) (fun hK => (fun _ => hK)))) (fun hK => ((xw191 n).2.2.2 _ hK))))))), fun a1 a2 h hK => sl191_121 (x_use (x_eq (K := (xK_v Q)) (g191_121_eq a1 a2 h) hK) (fun hK => (x_ite hK (fun hK => ((xw191 n).2.2.2 _ hK)) (fun hK => (x_ite hK (fun hK => (x_ite hK (fun hK => (x188 (xh_i (x_letk hK (fun hK => (x_ite hK (fun hK => (x_ite hK (fun hK => (fun _ => (fun _ => hK))) (fun hK => (fun _ => (fun _ => hK))))) (fun hK => hK))))))) (fun hK => (fun _ => hK)))) (fun hK => ((xw191 n).2.2.2 _ hK))))))), fun h hK => sl191_131 (x_use (x_eq (K := (xK_v Q)) (g191_131_eq  h) hK) (fun hK => (x186 (xh_n (x_hk hK (fun hK => hK))))))⟩
theorem x191 {E : mx_Ev} {n : Nat} {h : mx_H} {Q : Option mx_V → mx_H → Prop} (hK : (xK_v Q) (f191  h)) : mx_M E n 191 [.inr (.inl 105)] h Q := by
  cases n with
  | zero => exact mx_L.zero
  | succ n => exact sl191_0 (x_use (x_eq (K := (xK_v Q)) (f191_eq  h) hK) (fun hK => (x185 (xh_i (x_valk hK (fun hK => (x_ite hK (fun hK => ((xw191 n).1 _ _ hK)) (fun hK => (x_ite hK (fun hK => ((xw191 n).1 _ _ hK)) (fun hK => (x_ite hK (fun hK => ((xw191 n).1 _ _ hK)) (fun hK => (x_ite hK (fun hK => ((xw191 n).1 _ _ hK)) (fun hK => (x186 (xh_n (x_hk hK (fun hK => hK))))))))))))))))))
noncomputable def b192 : ((Int32 × mx_H) ⊕ (mx_H) ⊕ (mx_H)) → ((Int32 × mx_H) ⊕ (mx_H) ⊕ (mx_H)) ⊕ (mx_H)
  | (.inl (a1, h)) => (if 6 ≤ a1 then (if (f185 h) = 99 then (Sum.inl (.inr (.inl (mx_uI h (.inl 105) 17 ((h.2.1 (.inl 105) 17) + 1))))) else (x_h (f186 h) (fun h5 => (Sum.inr h5)))) else (Sum.inl (.inl ((a1 + 1), mx_uI (mx_uI h (.inl 121) (Int32.toNatClampNeg a1) (vp_nar .boolean 0)) (.inl 122) (Int32.toNatClampNeg a1) (vp_nar .boolean 0)))))
  | (.inr (.inl h)) => (if 6 ≤ (h.2.1 (.inl 106) (Int32.toNatClampNeg (h.2.1 (.inl 105) 1))) then (if (h.2.1 (.inl 106) (Int32.toNatClampNeg (h.2.1 (.inl 105) 1))) ≠ 0 then (Sum.inl (.inr (.inr h))) else (x_h (f186 h) (fun h2 => (Sum.inl (.inr (.inr h2)))))) else (if (f187 h) = 0 then (if (h.2.1 (.inl 106) (Int32.toNatClampNeg (h.2.1 (.inl 105) 1))) ≠ 0 then (Sum.inl (.inr (.inr h))) else (x_h (f186 h) (fun h7 => (Sum.inl (.inr (.inr h7)))))) else (x_let (f188 h) (fun x10 h9 => (Sum.inl (.inr (.inl (mx_uI (mx_uI h9 (.inl 107) (Int32.toNatClampNeg ((6 * (h.2.1 (.inl 105) 1)) + (h.2.1 (.inl 106) (Int32.toNatClampNeg (h.2.1 (.inl 105) 1))))) x10) (.inl 106) (Int32.toNatClampNeg ((mx_uI h9 (.inl 107) (Int32.toNatClampNeg ((6 * (h.2.1 (.inl 105) 1)) + (h.2.1 (.inl 106) (Int32.toNatClampNeg (h.2.1 (.inl 105) 1))))) x10).2.1 (.inl 105) 1)) (((mx_uI h9 (.inl 107) (Int32.toNatClampNeg ((6 * (h.2.1 (.inl 105) 1)) + (h.2.1 (.inl 106) (Int32.toNatClampNeg (h.2.1 (.inl 105) 1))))) x10).2.1 (.inl 106) (Int32.toNatClampNeg ((mx_uI h9 (.inl 107) (Int32.toNatClampNeg ((6 * (h.2.1 (.inl 105) 1)) + (h.2.1 (.inl 106) (Int32.toNatClampNeg (h.2.1 (.inl 105) 1))))) x10).2.1 (.inl 105) 1))) + 1)))))))))
  | (.inr (.inr h)) => (if 0 ≤ (h.2.1 (.inl 105) 18) then (if 0 ≤ (h.2.1 (.inl 105) 18) then (Sum.inr h) else (if (h.2.1 (.inl 105) 16) ≤ (h.2.1 (.inl 105) 17) then (Sum.inr h) else (x_h (f186 h) (fun h2 => (Sum.inr h2))))) else (if (f185 h) ≠ 59 then (if 0 ≤ (h.2.1 (.inl 105) 18) then (Sum.inr h) else (if (h.2.1 (.inl 105) 16) ≤ (h.2.1 (.inl 105) 17) then (Sum.inr h) else (x_h (f186 h) (fun h7 => (Sum.inr h7))))) else (x_h (f191 (mx_uI h (.inl 105) 17 ((h.2.1 (.inl 105) 17) + 1))) (fun h9 => (Sum.inl (.inr (.inr h9)))))))
noncomputable def g192_25 (a1 : Int32) (h : mx_H) : mx_H := ml_wh b192 (.inl (a1, h))
noncomputable def g192_75  (h : mx_H) : mx_H := ml_wh b192 (.inr (.inl h))
noncomputable def g192_154  (h : mx_H) : mx_H := ml_wh b192 (.inr (.inr h))
theorem g192_25_eq (a1 : Int32) (h : mx_H) : g192_25 a1 h = (if 6 ≤ a1 then (if (f185 h) = 99 then (g192_75  (mx_uI h (.inl 105) 17 ((h.2.1 (.inl 105) 17) + 1))) else (x_h (f186 h) (fun h5 => h5))) else (g192_25 (a1 + 1) (mx_uI (mx_uI h (.inl 121) (Int32.toNatClampNeg a1) (vp_nar .boolean 0)) (.inl 122) (Int32.toNatClampNeg a1) (vp_nar .boolean 0)))) := by
  unfold g192_25
  rw [ml_wh_eq]
  simp only [b192, ml_go_ite, ml_go_l, ml_go_r, ml_go_opt, ml_go_let, ml_go_h, ml_go_val]
  try rfl
theorem g192_75_eq  (h : mx_H) : g192_75  h = (if 6 ≤ (h.2.1 (.inl 106) (Int32.toNatClampNeg (h.2.1 (.inl 105) 1))) then (if (h.2.1 (.inl 106) (Int32.toNatClampNeg (h.2.1 (.inl 105) 1))) ≠ 0 then (g192_154  h) else (x_h (f186 h) (fun h2 => (g192_154  h2)))) else (if (f187 h) = 0 then (if (h.2.1 (.inl 106) (Int32.toNatClampNeg (h.2.1 (.inl 105) 1))) ≠ 0 then (g192_154  h) else (x_h (f186 h) (fun h7 => (g192_154  h7)))) else (x_let (f188 h) (fun x10 h9 => (g192_75  (mx_uI (mx_uI h9 (.inl 107) (Int32.toNatClampNeg ((6 * (h.2.1 (.inl 105) 1)) + (h.2.1 (.inl 106) (Int32.toNatClampNeg (h.2.1 (.inl 105) 1))))) x10) (.inl 106) (Int32.toNatClampNeg ((mx_uI h9 (.inl 107) (Int32.toNatClampNeg ((6 * (h.2.1 (.inl 105) 1)) + (h.2.1 (.inl 106) (Int32.toNatClampNeg (h.2.1 (.inl 105) 1))))) x10).2.1 (.inl 105) 1)) (((mx_uI h9 (.inl 107) (Int32.toNatClampNeg ((6 * (h.2.1 (.inl 105) 1)) + (h.2.1 (.inl 106) (Int32.toNatClampNeg (h.2.1 (.inl 105) 1))))) x10).2.1 (.inl 106) (Int32.toNatClampNeg ((mx_uI h9 (.inl 107) (Int32.toNatClampNeg ((6 * (h.2.1 (.inl 105) 1)) + (h.2.1 (.inl 106) (Int32.toNatClampNeg (h.2.1 (.inl 105) 1))))) x10).2.1 (.inl 105) 1))) + 1))))))) := by
  unfold g192_75
  rw [ml_wh_eq]
  simp only [b192, ml_go_ite, ml_go_l, ml_go_r, ml_go_opt, ml_go_let, ml_go_h, ml_go_val]
  try rfl
theorem g192_154_eq  (h : mx_H) : g192_154  h = (if 0 ≤ (h.2.1 (.inl 105) 18) then (if 0 ≤ (h.2.1 (.inl 105) 18) then h else (if (h.2.1 (.inl 105) 16) ≤ (h.2.1 (.inl 105) 17) then h else (x_h (f186 h) (fun h2 => h2)))) else (if (f185 h) ≠ 59 then (if 0 ≤ (h.2.1 (.inl 105) 18) then h else (if (h.2.1 (.inl 105) 16) ≤ (h.2.1 (.inl 105) 17) then h else (x_h (f186 h) (fun h7 => h7)))) else (x_h (f191 (mx_uI h (.inl 105) 17 ((h.2.1 (.inl 105) 17) + 1))) (fun h9 => (g192_154  h9))))) := by
  unfold g192_154
  rw [ml_wh_eq]
  simp only [b192, ml_go_ite, ml_go_l, ml_go_r, ml_go_opt, ml_go_let, ml_go_h, ml_go_val]
  try rfl
noncomputable def f192  (h : mx_H) : mx_H := x_box (x_h (f182 ((mx_uI (mx_uI (mx_uI h (.inl 105) 17 0) (.inl 105) 18 (-1)) (.inl 105) 19 0).2.1 (.inl 105) 1) (mx_uI (mx_uI (mx_uI h (.inl 105) 17 0) (.inl 105) 18 (-1)) (.inl 105) 19 0)) (fun h2 => (g192_25 0 h2)))
theorem f192_eq  (h : mx_H) : f192  h = (x_h (f182 ((mx_uI (mx_uI (mx_uI h (.inl 105) 17 0) (.inl 105) 18 (-1)) (.inl 105) 19 0).2.1 (.inl 105) 1) (mx_uI (mx_uI (mx_uI h (.inl 105) 17 0) (.inl 105) 18 (-1)) (.inl 105) 19 0)) (fun h2 => (g192_25 0 h2))) := x_box_eq _
theorem xw192 {E : mx_Ev} {Q : Option mx_V → mx_H → Prop} : ∀ n : Nat, (∀ (a1 : Int32) (h : mx_H), (xK_v Q) (g192_25 a1 h) → mx_L E n 192 25 [(0, .inr (.inl 105)), (1, .inl (.int a1))] [] h Q) ∧ (∀ (h : mx_H), (xK_v Q) (g192_75  h) → mx_L E n 192 75 [(0, .inr (.inl 105))] [] h Q) ∧ (∀ (h : mx_H), (xK_v Q) (g192_154  h) → mx_L E n 192 154 [(0, .inr (.inl 105))] [] h Q)
  | 0 => ⟨fun _ _ _ => mx_L.zero, fun _ _ => mx_L.zero, fun _ _ => mx_L.zero⟩
  | n + 1 => ⟨fun a1 h hK => sl192_25 (x_use (x_eq (K := (xK_v Q)) (g192_25_eq a1 h) hK) (fun hK => (x_ite hK (fun hK => (x185 (xh_i (x_ite hK (fun hK => ((xw192 n).2.1 _ hK)) (fun hK => (x186 (xh_n (x_hk hK (fun hK => hK))))))))) (fun hK => (fun _ => (fun _ => ((xw192 n).1 _ _ hK))))))), fun h hK => sl192_75 (x_use (x_eq (K := (xK_v Q)) (g192_75_eq  h) hK) (fun hK => (fun _ => (x_ite hK (fun hK => (fun _ => (x_ite hK (fun hK => ((xw192 n).2.2 _ hK)) (fun hK => (x186 (xh_n (x_hk hK (fun hK => ((xw192 n).2.2 _ hK))))))))) (fun hK => (x187 (xh_i (x_ite hK (fun hK => (fun _ => (x_ite hK (fun hK => ((xw192 n).2.2 _ hK)) (fun hK => (x186 (xh_n (x_hk hK (fun hK => ((xw192 n).2.2 _ hK))))))))) (fun hK => (fun _ => (x188 (xh_i (x_letk hK (fun hK => (fun _ => (fun _ => (fun _ => ((xw192 n).2.1 _ hK)))))))))))))))))), fun h hK => sl192_154 (x_use (x_eq (K := (xK_v Q)) (g192_154_eq  h) hK) (fun hK => (x_ite hK (fun hK => (x_ite hK (fun hK => hK) (fun hK => (x_ite hK (fun hK => hK) (fun hK => (x186 (xh_n (x_hk hK (fun hK => hK))))))))) (fun hK => (x185 (xh_i (x_ite hK (fun hK => (x_ite hK (fun hK => hK) (fun hK => (x_ite hK (fun hK => hK) (fun hK => (x186 (xh_n (x_hk hK (fun hK => hK))))))))) (fun hK => (x191 (xh_n (x_hk hK (fun hK => ((xw192 n).2.2 _ hK)))))))))))))⟩
theorem x192 {E : mx_Ev} {n : Nat} {h : mx_H} {Q : Option mx_V → mx_H → Prop} (hK : (xK_v Q) (f192  h)) : mx_M E n 192 [.inr (.inl 105)] h Q := by
  cases n with
  | zero => exact mx_L.zero
  | succ n => exact sl192_0 (x_use (x_eq (K := (xK_v Q)) (f192_eq  h) hK) (fun hK => (x182 (xh_n (x_hk hK (fun hK => ((xw192 n).1 _ _ hK)))))))
noncomputable def f193 (a1 : Int32) (a2 : Int32) (a3 : Int32) (h : mx_H) : mx_H := x_box (x_val (f179 a1 a2 a3) (fun x3 => (x_h (f181 a1 a2 a3 ((mx_uI (mx_uI h (.inl 116) (Int32.toNatClampNeg (h.2.1 (.inl 105) 12)) 1) (.inl 117) (Int32.toNatClampNeg ((mx_uI h (.inl 116) (Int32.toNatClampNeg (h.2.1 (.inl 105) 12)) 1).2.1 (.inl 105) 12)) (x3 + 1)).2.1 (.inl 105) 12) ((mx_uI (mx_uI h (.inl 116) (Int32.toNatClampNeg (h.2.1 (.inl 105) 12)) 1) (.inl 117) (Int32.toNatClampNeg ((mx_uI h (.inl 116) (Int32.toNatClampNeg (h.2.1 (.inl 105) 12)) 1).2.1 (.inl 105) 12)) (x3 + 1)).2.1 (.inl 111) (Int32.toNatClampNeg (f179 a1 a2 a3))) ((mx_uI (mx_uI h (.inl 116) (Int32.toNatClampNeg (h.2.1 (.inl 105) 12)) 1) (.inl 117) (Int32.toNatClampNeg ((mx_uI h (.inl 116) (Int32.toNatClampNeg (h.2.1 (.inl 105) 12)) 1).2.1 (.inl 105) 12)) (x3 + 1)).2.1 (.inl 112) (Int32.toNatClampNeg (f179 a1 a2 a3))) (mx_uI (mx_uI h (.inl 116) (Int32.toNatClampNeg (h.2.1 (.inl 105) 12)) 1) (.inl 117) (Int32.toNatClampNeg ((mx_uI h (.inl 116) (Int32.toNatClampNeg (h.2.1 (.inl 105) 12)) 1).2.1 (.inl 105) 12)) (x3 + 1))) (fun h11 => (mx_uI h11 (.inl 105) 12 ((h11.2.1 (.inl 105) 12) + 1))))))
theorem f193_eq (a1 : Int32) (a2 : Int32) (a3 : Int32) (h : mx_H) : f193 a1 a2 a3 h = (x_val (f179 a1 a2 a3) (fun x3 => (x_h (f181 a1 a2 a3 ((mx_uI (mx_uI h (.inl 116) (Int32.toNatClampNeg (h.2.1 (.inl 105) 12)) 1) (.inl 117) (Int32.toNatClampNeg ((mx_uI h (.inl 116) (Int32.toNatClampNeg (h.2.1 (.inl 105) 12)) 1).2.1 (.inl 105) 12)) (x3 + 1)).2.1 (.inl 105) 12) ((mx_uI (mx_uI h (.inl 116) (Int32.toNatClampNeg (h.2.1 (.inl 105) 12)) 1) (.inl 117) (Int32.toNatClampNeg ((mx_uI h (.inl 116) (Int32.toNatClampNeg (h.2.1 (.inl 105) 12)) 1).2.1 (.inl 105) 12)) (x3 + 1)).2.1 (.inl 111) (Int32.toNatClampNeg (f179 a1 a2 a3))) ((mx_uI (mx_uI h (.inl 116) (Int32.toNatClampNeg (h.2.1 (.inl 105) 12)) 1) (.inl 117) (Int32.toNatClampNeg ((mx_uI h (.inl 116) (Int32.toNatClampNeg (h.2.1 (.inl 105) 12)) 1).2.1 (.inl 105) 12)) (x3 + 1)).2.1 (.inl 112) (Int32.toNatClampNeg (f179 a1 a2 a3))) (mx_uI (mx_uI h (.inl 116) (Int32.toNatClampNeg (h.2.1 (.inl 105) 12)) 1) (.inl 117) (Int32.toNatClampNeg ((mx_uI h (.inl 116) (Int32.toNatClampNeg (h.2.1 (.inl 105) 12)) 1).2.1 (.inl 105) 12)) (x3 + 1))) (fun h11 => (mx_uI h11 (.inl 105) 12 ((h11.2.1 (.inl 105) 12) + 1)))))) := x_box_eq _
theorem x193 {E : mx_Ev} {n : Nat} {h : mx_H} {Q : Option mx_V → mx_H → Prop} {a1 : Int32} {a2 : Int32} {a3 : Int32} (hK : (xK_v Q) (f193 a1 a2 a3 h)) : mx_M E n 193 [.inr (.inl 105), .inl (.int a1), .inl (.int a2), .inl (.int a3)] h Q := by
  cases n with
  | zero => exact mx_L.zero
  | succ n => exact sl193_0 (x_use (x_eq (K := (xK_v Q)) (f193_eq a1 a2 a3 h) hK) (fun hK => (fun _ => (x179 (xh_i (x_valk hK (fun hK => (fun _ => (x179 (xh_i (fun _ => (x179 (xh_i (fun _ => (x181 (xh_n (x_hk hK (fun hK => hK))))))))))))))))))
noncomputable def b194 : ((Int32 × mx_H)) → ((Int32 × mx_H)) ⊕ (Int32 × mx_H)
  | (a1, h) => (if (h.2.1 (.inl 105) 19) ≤ a1 then (Sum.inr ((((mx_uI (mx_uI h (.inl 114) (Int32.toNatClampNeg (h.2.1 (.inl 105) 1)) (-1)) (.inl 105) 1 (((mx_uI h (.inl 114) (Int32.toNatClampNeg (h.2.1 (.inl 105) 1)) (-1)).2.1 (.inl 105) 1) + 1)).2.1 (.inl 105) 1) - 1 : Int32), mx_uI (mx_uI h (.inl 114) (Int32.toNatClampNeg (h.2.1 (.inl 105) 1)) (-1)) (.inl 105) 1 (((mx_uI h (.inl 114) (Int32.toNatClampNeg (h.2.1 (.inl 105) 1)) (-1)).2.1 (.inl 105) 1) + 1))) else (x_h (f193 (h.2.1 (.inl 105) 1) (h.2.1 (.inl 119) (Int32.toNatClampNeg a1)) (h.2.1 (.inl 120) (Int32.toNatClampNeg a1)) h) (fun h2 => (Sum.inl ((a1 + 1), h2)))))
noncomputable def g194_61 (a1 : Int32) (h : mx_H) : Int32 × mx_H := ml_wh b194 (a1, h)
theorem g194_61_eq (a1 : Int32) (h : mx_H) : g194_61 a1 h = (if (h.2.1 (.inl 105) 19) ≤ a1 then ((((mx_uI (mx_uI h (.inl 114) (Int32.toNatClampNeg (h.2.1 (.inl 105) 1)) (-1)) (.inl 105) 1 (((mx_uI h (.inl 114) (Int32.toNatClampNeg (h.2.1 (.inl 105) 1)) (-1)).2.1 (.inl 105) 1) + 1)).2.1 (.inl 105) 1) - 1 : Int32), mx_uI (mx_uI h (.inl 114) (Int32.toNatClampNeg (h.2.1 (.inl 105) 1)) (-1)) (.inl 105) 1 (((mx_uI h (.inl 114) (Int32.toNatClampNeg (h.2.1 (.inl 105) 1)) (-1)).2.1 (.inl 105) 1) + 1)) else (x_h (f193 (h.2.1 (.inl 105) 1) (h.2.1 (.inl 119) (Int32.toNatClampNeg a1)) (h.2.1 (.inl 120) (Int32.toNatClampNeg a1)) h) (fun h2 => (g194_61 (a1 + 1) h2)))) := by
  unfold g194_61
  rw [ml_wh_eq]
  simp only [b194, ml_go_ite, ml_go_l, ml_go_r, ml_go_opt, ml_go_let, ml_go_h, ml_go_val]
  try rfl
noncomputable def f194  (h : mx_H) : Int32 × mx_H := x_box (if (h.2.1 (.inl 105) 1) ≠ 12 then (x_h (f192 h) (fun h2 => (if (h2.2.1 (.inl 105) 18) < 0 then (if ((h2.2.1 (.inl 105) 12) + (h2.2.1 (.inl 105) 19)) ≤ 200 then (g194_61 0 (mx_uI h2 (.inl 105) 16 0)) else (((-3) : Int32), h2)) else (((-100) - ((mx_uI h2 (.inl 105) 16 0).2.1 (.inl 105) 18) : Int32), mx_uI h2 (.inl 105) 16 0)))) else (((-3) : Int32), h))
theorem f194_eq  (h : mx_H) : f194  h = (if (h.2.1 (.inl 105) 1) ≠ 12 then (x_h (f192 h) (fun h2 => (if (h2.2.1 (.inl 105) 18) < 0 then (if ((h2.2.1 (.inl 105) 12) + (h2.2.1 (.inl 105) 19)) ≤ 200 then (g194_61 0 (mx_uI h2 (.inl 105) 16 0)) else (((-3) : Int32), h2)) else (((-100) - ((mx_uI h2 (.inl 105) 16 0).2.1 (.inl 105) 18) : Int32), mx_uI h2 (.inl 105) 16 0)))) else (((-3) : Int32), h)) := x_box_eq _
theorem xw194 {E : mx_Ev} {Q : Option mx_V → mx_H → Prop} : ∀ n : Nat, (∀ (a1 : Int32) (h : mx_H), (xK_i Q) (g194_61 a1 h) → mx_L E n 194 61 [(0, .inr (.inl 105)), (1, .inl (.int a1))] [] h Q)
  | 0 => fun _ _ _ => mx_L.zero
  | n + 1 => fun a1 h hK => sl194_61 (x_use (x_eq (K := (xK_i Q)) (g194_61_eq a1 h) hK) (fun hK => (x_ite hK (fun hK => (fun _ => hK)) (fun hK => (fun _ => (fun _ => (x193 (xh_n (x_hk hK (fun hK => ((xw194 n) _ _ hK)))))))))))
theorem x194 {E : mx_Ev} {n : Nat} {h : mx_H} {Q : Option mx_V → mx_H → Prop} (hK : (xK_i Q) (f194  h)) : mx_M E n 194 [.inr (.inl 105)] h Q := by
  cases n with
  | zero => exact mx_L.zero
  | succ n => exact sl194_0 (x_use (x_eq (K := (xK_i Q)) (f194_eq  h) hK) (fun hK => (x_ite hK (fun hK => (x192 (xh_n (x_hk hK (fun hK => (x_ite hK (fun hK => (x_ite hK (fun hK => ((xw194 n) _ _ hK)) (fun hK => hK))) (fun hK => hK))))))) (fun hK => hK))))
noncomputable def b195 : ((Int32 × Int32 × Int32 × mx_H)) → ((Int32 × Int32 × Int32 × mx_H)) ⊕ (Int32)
  | (a1, a2, a3, h) => (if (h.2.1 (.inl 106) (Int32.toNatClampNeg a1)) ≤ a3 then (Sum.inr (a2 : Int32)) else (if (h.2.1 (.inl 110) (Int32.toNatClampNeg ((6 * a1) + a3))) = 0 then (Sum.inl (a1, (a2 + 1), (a3 + 1), h)) else (Sum.inl (a1, (a2 + 0), (a3 + 1), h))))
noncomputable def g195_4 (a1 : Int32) (a2 : Int32) (a3 : Int32) (h : mx_H) : Int32 := ml_wh b195 (a1, a2, a3, h)
theorem g195_4_eq (a1 : Int32) (a2 : Int32) (a3 : Int32) (h : mx_H) : g195_4 a1 a2 a3 h = (if (h.2.1 (.inl 106) (Int32.toNatClampNeg a1)) ≤ a3 then (a2 : Int32) else (if (h.2.1 (.inl 110) (Int32.toNatClampNeg ((6 * a1) + a3))) = 0 then (g195_4 a1 (a2 + 1) (a3 + 1) h) else (g195_4 a1 (a2 + 0) (a3 + 1) h))) := by
  unfold g195_4
  rw [ml_wh_eq]
  simp only [b195, ml_go_ite, ml_go_l, ml_go_r, ml_go_opt, ml_go_let, ml_go_h, ml_go_val]
  try rfl
noncomputable def f195 (a1 : Int32) (h : mx_H) : Int32 := x_box (g195_4 a1 0 0 h)
theorem f195_eq (a1 : Int32) (h : mx_H) : f195 a1 h = (g195_4 a1 0 0 h) := x_box_eq _
theorem xw195 {E : mx_Ev} {Q : Option mx_V → mx_H → Prop} : ∀ n : Nat, (∀ (a1 : Int32) (a2 : Int32) (a3 : Int32) (h : mx_H), (xK_ip Q h) (g195_4 a1 a2 a3 h) → mx_L E n 195 4 [(0, .inr (.inl 105)), (1, .inl (.int a1)), (2, .inl (.int a2)), (3, .inl (.int a3))] [] h Q)
  | 0 => fun _ _ _ _ _ => mx_L.zero
  | n + 1 => fun a1 a2 a3 h hK => sl195_4 (x_use (x_eq (K := (xK_ip Q h)) (g195_4_eq a1 a2 a3 h) hK) (fun hK => (fun _ => (x_ite hK (fun hK => hK) (fun hK => (fun _ => (x_ite hK (fun hK => ((xw195 n) _ _ _ _ hK)) (fun hK => ((xw195 n) _ _ _ _ hK)))))))))
theorem x195 {E : mx_Ev} {n : Nat} {h : mx_H} {Q : Option mx_V → mx_H → Prop} {a1 : Int32} (hK : (xK_ip Q h) (f195 a1 h)) : mx_M E n 195 [.inr (.inl 105), .inl (.int a1)] h Q := by
  cases n with
  | zero => exact mx_L.zero
  | succ n => exact sl195_0 (x_use (x_eq (K := (xK_ip Q h)) (f195_eq a1 h) hK) (fun hK => ((xw195 n) _ _ _ _ hK)))
noncomputable def f196 (a1 : Int32) (a2 : Int32) (h : mx_H) : Int32 := x_box (if (f177 a1 h) = 0 then ((-2000000000) : Int32) else (if 0 ≤ a2 then (if 10 ≤ a2 then (if (f178 a1 (a2 - a2 / 10 * 10) h) ≠ 0 then (if 20 ≤ a2 then (if 30 ≤ a2 then (if 40 ≤ a2 then (if 50 ≤ a2 then ((-2000000000) : Int32) else (if (h.2.1 (.inl 110) (Int32.toNatClampNeg ((6 * a1) + (a2 - a2 / 10 * 10)))) = 0 then (0 : Int32) else (1 : Int32))) else (h.2.1 (.inl 109) (Int32.toNatClampNeg ((6 * a1) + (a2 - a2 / 10 * 10))) : Int32)) else (h.2.1 (.inl 108) (Int32.toNatClampNeg ((6 * a1) + (a2 - a2 / 10 * 10))) : Int32)) else (h.2.1 (.inl 107) (Int32.toNatClampNeg ((6 * a1) + (a2 - a2 / 10 * 10))) : Int32)) else ((-2000000000) : Int32)) else (if a2 ≠ 0 then (if a2 ≠ 1 then (if a2 ≠ 2 then ((-2000000000) : Int32) else ((f195 a1 h) : Int32)) else ((f183 a1 h) : Int32)) else (h.2.1 (.inl 106) (Int32.toNatClampNeg a1) : Int32))) else ((-2000000000) : Int32)))
noncomputable def f197 (a1 : Int32) (a2 : Int32) (a3 : Int32) (a4 : Int32) (h : mx_H) : Int32 := x_box (if (f177 a1 h) = 0 then ((-1) : Int32) else (if (f178 a1 a2 h) = 0 then ((-1) : Int32) else (if (f178 a1 a3 h) = 0 then ((-1) : Int32) else (if (f173 a4 0 2) ≠ 0 then (if a2 = a3 then ((-2) : Int32) else (if (f180 a1 a2 a3 h) ≠ 0 then (x_val (f179 a1 a2 a3) (fun x18 => (if a4 ≠ 0 then (if a4 ≠ 1 then (h.2.1 (.inl 112) (Int32.toNatClampNeg x18) : Int32) else (h.2.1 (.inl 111) (Int32.toNatClampNeg x18) : Int32)) else ((h.2.1 (.inl 113) (Int32.toNatClampNeg x18)) - 1 : Int32)))) else ((-2) : Int32))) else ((-1) : Int32)))))
