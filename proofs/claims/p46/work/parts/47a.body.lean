/-! ===== class: a body of no shape; rows copied ===== -/
set_option maxRecDepth 100000 in
theorem sg37_null {E : mx_Ev} {d : Nat} {h : mx_H} {Q : Option mx_V → mx_H → Prop} {a1 : Int32}
    (H : (((h.2.1 (.inl 90) 0) < 200) → ((vp_in (h.2.1 (.inl 90) 0) 200) ∧ ((vp_in ((mx_uI h (.inl 91) (Int32.toNatClampNeg (h.2.1 (.inl 90) 0)) a1).2.1 (.inl 90) 0) 200) ∧ (mx_fn true (.inl 92) (Int32.toNatClampNeg ((mx_uI h (.inl 91) (Int32.toNatClampNeg (h.2.1 (.inl 90) 0)) a1).2.1 (.inl 90) 0)) = none) ∧ (Q (some (.inl (.int (((mx_uI (mx_uR (mx_uI h (.inl 91) (Int32.toNatClampNeg (h.2.1 (.inl 90) 0)) a1) (.inl 92) (Int32.toNatClampNeg ((mx_uI h (.inl 91) (Int32.toNatClampNeg (h.2.1 (.inl 90) 0)) a1).2.1 (.inl 90) 0)) none) (.inl 90) 0 (((mx_uR (mx_uI h (.inl 91) (Int32.toNatClampNeg (h.2.1 (.inl 90) 0)) a1) (.inl 92) (Int32.toNatClampNeg ((mx_uI h (.inl 91) (Int32.toNatClampNeg (h.2.1 (.inl 90) 0)) a1).2.1 (.inl 90) 0)) none).2.1 (.inl 90) 0) + 1)).2.1 (.inl 90) 0) - 1)))) (mx_uI (mx_uR (mx_uI h (.inl 91) (Int32.toNatClampNeg (h.2.1 (.inl 90) 0)) a1) (.inl 92) (Int32.toNatClampNeg ((mx_uI h (.inl 91) (Int32.toNatClampNeg (h.2.1 (.inl 90) 0)) a1).2.1 (.inl 90) 0)) none) (.inl 90) 0 (((mx_uR (mx_uI h (.inl 91) (Int32.toNatClampNeg (h.2.1 (.inl 90) 0)) a1) (.inl 92) (Int32.toNatClampNeg ((mx_uI h (.inl 91) (Int32.toNatClampNeg (h.2.1 (.inl 90) 0)) a1).2.1 (.inl 90) 0)) none).2.1 (.inl 90) 0) + 1)))))) ∧ (¬ ((h.2.1 (.inl 90) 0) < 200) → (Q (some (.inl (.int (-3)))) h))) :
    mx_T E (mx_fn true) d 0 0 37 0 [(0, .inr (.inl 90)), (1, .inl (.int a1)), (2, .inl .null)] [] h Q := mx_wp_sound (cuts := []) mx_ok37 30 H mx_tbe37
theorem li_nn {x : Int32} (h : 0 ≤ x.toInt) : ¬ x < 0 := fun q => by
  have := Int32.lt_iff_toInt_lt.mp q
  rw [show (0 : Int32).toInt = 0 from rfl] at this
  omega
theorem li_cc {x n : Int32} (hx : 0 ≤ x.toInt) (hn : 0 ≤ n.toInt) (h : x.toInt + n.toInt ≤ 60) : x.toNatClampNeg + n.toNatClampNeg ≤ 60 := by
  have := sf_cl hx
  have := sf_cl hn
  omega
theorem sf_uC {h : mx_H} {a b : mx_A} {sp dp n : Nat} (hI : sf_I h) : sf_I (mx_cph h a b sp dp n) := hI
theorem sf_EC {m : Nat} {h h' : mx_H} {a b : mx_A} {sp dp n : Nat} (hE : sf_E m h h') : sf_E m h (mx_cph h' a b sp dp n) := hE
