/-! ===== taken: alike ===== -/
section RTH
variable {h hc hr : mx_H} {S N s : Nat} {a1 a2 x y : Int32}
theorem iu_0_0 : f38 0 0 h = f284 0 0 := by
  rw [show f284 0 0 = 1 by rw [f284_eq]; rfl, f38_eq]
  rw [g38_4_eq, if_neg (by decide), if_neg (by decide), if_neg (by decide)]
theorem iu_0_1 : f38 0 1 h = f284 0 1 := by
  rw [show f284 0 1 = 0 by rw [f284_eq]; rfl, f38_eq]
  rw [g38_4_eq, if_neg (by decide), if_neg (by decide), if_pos (by decide)]
  show g38_4 1 (-1) (0 + 1) h = 0
  rw [g38_4_eq, if_neg (by decide), if_pos (by decide)]
theorem iu_0_2 : f38 0 2 h = f284 0 2 := by
  rw [show f284 0 2 = 0 by rw [f284_eq]; rfl, f38_eq]
  rw [g38_4_eq, if_neg (by decide), if_neg (by decide), if_pos (by decide)]
  show g38_4 2 (-1) (0 + 1) h = 0
  rw [g38_4_eq, if_neg (by decide), if_pos (by decide)]
theorem iu_0_3 : f38 0 3 h = f284 0 3 := by
  rw [show f284 0 3 = 0 by rw [f284_eq]; rfl, f38_eq]
  rw [g38_4_eq, if_neg (by decide), if_neg (by decide), if_pos (by decide)]
  show g38_4 3 (-1) (0 + 1) h = 0
  rw [g38_4_eq, if_neg (by decide), if_pos (by decide)]
theorem iu_0_4 : f38 0 4 h = f284 0 4 := by
  rw [show f284 0 4 = 0 by rw [f284_eq]; rfl, f38_eq]
  rw [g38_4_eq, if_neg (by decide), if_neg (by decide), if_pos (by decide)]
  show g38_4 4 (-1) (0 + 1) h = 0
  rw [g38_4_eq, if_neg (by decide), if_pos (by decide)]
theorem iu_0_5 : f38 0 5 h = f284 0 5 := by
  rw [show f284 0 5 = 0 by rw [f284_eq]; rfl, f38_eq]
  rw [g38_4_eq, if_neg (by decide), if_neg (by decide), if_pos (by decide)]
  show g38_4 5 (-1) (0 + 1) h = 0
  rw [g38_4_eq, if_neg (by decide), if_pos (by decide)]
theorem iu_1_0 : f38 1 0 h = f284 1 0 := by
  rw [show f284 1 0 = 1 by rw [f284_eq]; rfl, f38_eq]
  rw [g38_4_eq, if_neg (by decide), if_neg (by decide), if_pos (by decide)]
  show g38_4 0 0 (0 + 1) h = 1
  rw [g38_4_eq, if_neg (by decide), if_neg (by decide), if_neg (by decide)]
theorem iu_1_1 : f38 1 1 h = f284 1 1 := by
  rw [show f284 1 1 = 1 by rw [f284_eq]; rfl, f38_eq]
  rw [g38_4_eq, if_neg (by decide), if_neg (by decide), if_neg (by decide)]
theorem iu_1_2 : f38 1 2 h = f284 1 2 := by
  rw [show f284 1 2 = 0 by rw [f284_eq]; rfl, f38_eq]
  rw [g38_4_eq, if_neg (by decide), if_neg (by decide), if_pos (by decide)]
  show g38_4 2 0 (0 + 1) h = 0
  rw [g38_4_eq, if_neg (by decide), if_neg (by decide), if_pos (by decide)]
  show g38_4 2 (-1) (0 + 1 + 1) h = 0
  rw [g38_4_eq, if_neg (by decide), if_pos (by decide)]
theorem iu_1_3 : f38 1 3 h = f284 1 3 := by
  rw [show f284 1 3 = 0 by rw [f284_eq]; rfl, f38_eq]
  rw [g38_4_eq, if_neg (by decide), if_neg (by decide), if_pos (by decide)]
  show g38_4 3 0 (0 + 1) h = 0
  rw [g38_4_eq, if_neg (by decide), if_neg (by decide), if_pos (by decide)]
  show g38_4 3 (-1) (0 + 1 + 1) h = 0
  rw [g38_4_eq, if_neg (by decide), if_pos (by decide)]
theorem iu_1_4 : f38 1 4 h = f284 1 4 := by
  rw [show f284 1 4 = 0 by rw [f284_eq]; rfl, f38_eq]
  rw [g38_4_eq, if_neg (by decide), if_neg (by decide), if_pos (by decide)]
  show g38_4 4 0 (0 + 1) h = 0
  rw [g38_4_eq, if_neg (by decide), if_neg (by decide), if_pos (by decide)]
  show g38_4 4 (-1) (0 + 1 + 1) h = 0
  rw [g38_4_eq, if_neg (by decide), if_pos (by decide)]
theorem iu_1_5 : f38 1 5 h = f284 1 5 := by
  rw [show f284 1 5 = 0 by rw [f284_eq]; rfl, f38_eq]
  rw [g38_4_eq, if_neg (by decide), if_neg (by decide), if_pos (by decide)]
  show g38_4 5 0 (0 + 1) h = 0
  rw [g38_4_eq, if_neg (by decide), if_neg (by decide), if_pos (by decide)]
  show g38_4 5 (-1) (0 + 1 + 1) h = 0
  rw [g38_4_eq, if_neg (by decide), if_pos (by decide)]
theorem iu_2_0 : f38 2 0 h = f284 2 0 := by
  rw [show f284 2 0 = 1 by rw [f284_eq]; rfl, f38_eq]
  rw [g38_4_eq, if_neg (by decide), if_neg (by decide), if_pos (by decide)]
  show g38_4 0 1 (0 + 1) h = 1
  rw [g38_4_eq, if_neg (by decide), if_neg (by decide), if_pos (by decide)]
  show g38_4 0 0 (0 + 1 + 1) h = 1
  rw [g38_4_eq, if_neg (by decide), if_neg (by decide), if_neg (by decide)]
theorem iu_2_1 : f38 2 1 h = f284 2 1 := by
  rw [show f284 2 1 = 1 by rw [f284_eq]; rfl, f38_eq]
  rw [g38_4_eq, if_neg (by decide), if_neg (by decide), if_pos (by decide)]
  show g38_4 1 1 (0 + 1) h = 1
  rw [g38_4_eq, if_neg (by decide), if_neg (by decide), if_neg (by decide)]
theorem iu_2_2 : f38 2 2 h = f284 2 2 := by
  rw [show f284 2 2 = 1 by rw [f284_eq]; rfl, f38_eq]
  rw [g38_4_eq, if_neg (by decide), if_neg (by decide), if_neg (by decide)]
theorem iu_2_3 : f38 2 3 h = f284 2 3 := by
  rw [show f284 2 3 = 0 by rw [f284_eq]; rfl, f38_eq]
  rw [g38_4_eq, if_neg (by decide), if_neg (by decide), if_pos (by decide)]
  show g38_4 3 1 (0 + 1) h = 0
  rw [g38_4_eq, if_neg (by decide), if_neg (by decide), if_pos (by decide)]
  show g38_4 3 0 (0 + 1 + 1) h = 0
  rw [g38_4_eq, if_neg (by decide), if_neg (by decide), if_pos (by decide)]
  show g38_4 3 (-1) (0 + 1 + 1 + 1) h = 0
  rw [g38_4_eq, if_neg (by decide), if_pos (by decide)]
theorem iu_2_4 : f38 2 4 h = f284 2 4 := by
  rw [show f284 2 4 = 0 by rw [f284_eq]; rfl, f38_eq]
  rw [g38_4_eq, if_neg (by decide), if_neg (by decide), if_pos (by decide)]
  show g38_4 4 1 (0 + 1) h = 0
  rw [g38_4_eq, if_neg (by decide), if_neg (by decide), if_pos (by decide)]
  show g38_4 4 0 (0 + 1 + 1) h = 0
  rw [g38_4_eq, if_neg (by decide), if_neg (by decide), if_pos (by decide)]
  show g38_4 4 (-1) (0 + 1 + 1 + 1) h = 0
  rw [g38_4_eq, if_neg (by decide), if_pos (by decide)]
theorem iu_2_5 : f38 2 5 h = f284 2 5 := by
  rw [show f284 2 5 = 0 by rw [f284_eq]; rfl, f38_eq]
  rw [g38_4_eq, if_neg (by decide), if_neg (by decide), if_pos (by decide)]
  show g38_4 5 1 (0 + 1) h = 0
  rw [g38_4_eq, if_neg (by decide), if_neg (by decide), if_pos (by decide)]
  show g38_4 5 0 (0 + 1 + 1) h = 0
  rw [g38_4_eq, if_neg (by decide), if_neg (by decide), if_pos (by decide)]
  show g38_4 5 (-1) (0 + 1 + 1 + 1) h = 0
  rw [g38_4_eq, if_neg (by decide), if_pos (by decide)]
theorem iu_3_0 : f38 3 0 h = f284 3 0 := by
  rw [show f284 3 0 = 1 by rw [f284_eq]; rfl, f38_eq]
  rw [g38_4_eq, if_neg (by decide), if_neg (by decide), if_pos (by decide)]
  show g38_4 0 0 (0 + 1) h = 1
  rw [g38_4_eq, if_neg (by decide), if_neg (by decide), if_neg (by decide)]
theorem iu_3_1 : f38 3 1 h = f284 3 1 := by
  rw [show f284 3 1 = 0 by rw [f284_eq]; rfl, f38_eq]
  rw [g38_4_eq, if_neg (by decide), if_neg (by decide), if_pos (by decide)]
  show g38_4 1 0 (0 + 1) h = 0
  rw [g38_4_eq, if_neg (by decide), if_neg (by decide), if_pos (by decide)]
  show g38_4 1 (-1) (0 + 1 + 1) h = 0
  rw [g38_4_eq, if_neg (by decide), if_pos (by decide)]
theorem iu_3_2 : f38 3 2 h = f284 3 2 := by
  rw [show f284 3 2 = 0 by rw [f284_eq]; rfl, f38_eq]
  rw [g38_4_eq, if_neg (by decide), if_neg (by decide), if_pos (by decide)]
  show g38_4 2 0 (0 + 1) h = 0
  rw [g38_4_eq, if_neg (by decide), if_neg (by decide), if_pos (by decide)]
  show g38_4 2 (-1) (0 + 1 + 1) h = 0
  rw [g38_4_eq, if_neg (by decide), if_pos (by decide)]
theorem iu_3_3 : f38 3 3 h = f284 3 3 := by
  rw [show f284 3 3 = 1 by rw [f284_eq]; rfl, f38_eq]
  rw [g38_4_eq, if_neg (by decide), if_neg (by decide), if_neg (by decide)]
theorem iu_3_4 : f38 3 4 h = f284 3 4 := by
  rw [show f284 3 4 = 0 by rw [f284_eq]; rfl, f38_eq]
  rw [g38_4_eq, if_neg (by decide), if_neg (by decide), if_pos (by decide)]
  show g38_4 4 0 (0 + 1) h = 0
  rw [g38_4_eq, if_neg (by decide), if_neg (by decide), if_pos (by decide)]
  show g38_4 4 (-1) (0 + 1 + 1) h = 0
  rw [g38_4_eq, if_neg (by decide), if_pos (by decide)]
theorem iu_3_5 : f38 3 5 h = f284 3 5 := by
  rw [show f284 3 5 = 0 by rw [f284_eq]; rfl, f38_eq]
  rw [g38_4_eq, if_neg (by decide), if_neg (by decide), if_pos (by decide)]
  show g38_4 5 0 (0 + 1) h = 0
  rw [g38_4_eq, if_neg (by decide), if_neg (by decide), if_pos (by decide)]
  show g38_4 5 (-1) (0 + 1 + 1) h = 0
  rw [g38_4_eq, if_neg (by decide), if_pos (by decide)]
theorem iu_4_0 : f38 4 0 h = f284 4 0 := by
  rw [show f284 4 0 = 1 by rw [f284_eq]; rfl, f38_eq]
  rw [g38_4_eq, if_neg (by decide), if_neg (by decide), if_pos (by decide)]
  show g38_4 0 1 (0 + 1) h = 1
  rw [g38_4_eq, if_neg (by decide), if_neg (by decide), if_pos (by decide)]
  show g38_4 0 0 (0 + 1 + 1) h = 1
  rw [g38_4_eq, if_neg (by decide), if_neg (by decide), if_neg (by decide)]
theorem iu_4_1 : f38 4 1 h = f284 4 1 := by
  rw [show f284 4 1 = 1 by rw [f284_eq]; rfl, f38_eq]
  rw [g38_4_eq, if_neg (by decide), if_neg (by decide), if_pos (by decide)]
  show g38_4 1 1 (0 + 1) h = 1
  rw [g38_4_eq, if_neg (by decide), if_neg (by decide), if_neg (by decide)]
theorem iu_4_2 : f38 4 2 h = f284 4 2 := by
  rw [show f284 4 2 = 0 by rw [f284_eq]; rfl, f38_eq]
  rw [g38_4_eq, if_neg (by decide), if_neg (by decide), if_pos (by decide)]
  show g38_4 2 1 (0 + 1) h = 0
  rw [g38_4_eq, if_neg (by decide), if_neg (by decide), if_pos (by decide)]
  show g38_4 2 0 (0 + 1 + 1) h = 0
  rw [g38_4_eq, if_neg (by decide), if_neg (by decide), if_pos (by decide)]
  show g38_4 2 (-1) (0 + 1 + 1 + 1) h = 0
  rw [g38_4_eq, if_neg (by decide), if_pos (by decide)]
theorem iu_4_3 : f38 4 3 h = f284 4 3 := by
  rw [show f284 4 3 = 0 by rw [f284_eq]; rfl, f38_eq]
  rw [g38_4_eq, if_neg (by decide), if_neg (by decide), if_pos (by decide)]
  show g38_4 3 1 (0 + 1) h = 0
  rw [g38_4_eq, if_neg (by decide), if_neg (by decide), if_pos (by decide)]
  show g38_4 3 0 (0 + 1 + 1) h = 0
  rw [g38_4_eq, if_neg (by decide), if_neg (by decide), if_pos (by decide)]
  show g38_4 3 (-1) (0 + 1 + 1 + 1) h = 0
  rw [g38_4_eq, if_neg (by decide), if_pos (by decide)]
theorem iu_4_4 : f38 4 4 h = f284 4 4 := by
  rw [show f284 4 4 = 1 by rw [f284_eq]; rfl, f38_eq]
  rw [g38_4_eq, if_neg (by decide), if_neg (by decide), if_neg (by decide)]
theorem iu_4_5 : f38 4 5 h = f284 4 5 := by
  rw [show f284 4 5 = 0 by rw [f284_eq]; rfl, f38_eq]
  rw [g38_4_eq, if_neg (by decide), if_neg (by decide), if_pos (by decide)]
  show g38_4 5 1 (0 + 1) h = 0
  rw [g38_4_eq, if_neg (by decide), if_neg (by decide), if_pos (by decide)]
  show g38_4 5 0 (0 + 1 + 1) h = 0
  rw [g38_4_eq, if_neg (by decide), if_neg (by decide), if_pos (by decide)]
  show g38_4 5 (-1) (0 + 1 + 1 + 1) h = 0
  rw [g38_4_eq, if_neg (by decide), if_pos (by decide)]
theorem iu_5_0 : f38 5 0 h = f284 5 0 := by
  rw [show f284 5 0 = 1 by rw [f284_eq]; rfl, f38_eq]
  rw [g38_4_eq, if_neg (by decide), if_neg (by decide), if_pos (by decide)]
  show g38_4 0 4 (0 + 1) h = 1
  rw [g38_4_eq, if_neg (by decide), if_neg (by decide), if_pos (by decide)]
  show g38_4 0 1 (0 + 1 + 1) h = 1
  rw [g38_4_eq, if_neg (by decide), if_neg (by decide), if_pos (by decide)]
  show g38_4 0 0 (0 + 1 + 1 + 1) h = 1
  rw [g38_4_eq, if_neg (by decide), if_neg (by decide), if_neg (by decide)]
theorem iu_5_1 : f38 5 1 h = f284 5 1 := by
  rw [show f284 5 1 = 1 by rw [f284_eq]; rfl, f38_eq]
  rw [g38_4_eq, if_neg (by decide), if_neg (by decide), if_pos (by decide)]
  show g38_4 1 4 (0 + 1) h = 1
  rw [g38_4_eq, if_neg (by decide), if_neg (by decide), if_pos (by decide)]
  show g38_4 1 1 (0 + 1 + 1) h = 1
  rw [g38_4_eq, if_neg (by decide), if_neg (by decide), if_neg (by decide)]
theorem iu_5_2 : f38 5 2 h = f284 5 2 := by
  rw [show f284 5 2 = 0 by rw [f284_eq]; rfl, f38_eq]
  rw [g38_4_eq, if_neg (by decide), if_neg (by decide), if_pos (by decide)]
  show g38_4 2 4 (0 + 1) h = 0
  rw [g38_4_eq, if_neg (by decide), if_neg (by decide), if_pos (by decide)]
  show g38_4 2 1 (0 + 1 + 1) h = 0
  rw [g38_4_eq, if_neg (by decide), if_neg (by decide), if_pos (by decide)]
  show g38_4 2 0 (0 + 1 + 1 + 1) h = 0
  rw [g38_4_eq, if_neg (by decide), if_neg (by decide), if_pos (by decide)]
  show g38_4 2 (-1) (0 + 1 + 1 + 1 + 1) h = 0
  rw [g38_4_eq, if_neg (by decide), if_pos (by decide)]
theorem iu_5_3 : f38 5 3 h = f284 5 3 := by
  rw [show f284 5 3 = 0 by rw [f284_eq]; rfl, f38_eq]
  rw [g38_4_eq, if_neg (by decide), if_neg (by decide), if_pos (by decide)]
  show g38_4 3 4 (0 + 1) h = 0
  rw [g38_4_eq, if_neg (by decide), if_neg (by decide), if_pos (by decide)]
  show g38_4 3 1 (0 + 1 + 1) h = 0
  rw [g38_4_eq, if_neg (by decide), if_neg (by decide), if_pos (by decide)]
  show g38_4 3 0 (0 + 1 + 1 + 1) h = 0
  rw [g38_4_eq, if_neg (by decide), if_neg (by decide), if_pos (by decide)]
  show g38_4 3 (-1) (0 + 1 + 1 + 1 + 1) h = 0
  rw [g38_4_eq, if_neg (by decide), if_pos (by decide)]
theorem iu_5_4 : f38 5 4 h = f284 5 4 := by
  rw [show f284 5 4 = 1 by rw [f284_eq]; rfl, f38_eq]
  rw [g38_4_eq, if_neg (by decide), if_neg (by decide), if_pos (by decide)]
  show g38_4 4 4 (0 + 1) h = 1
  rw [g38_4_eq, if_neg (by decide), if_neg (by decide), if_neg (by decide)]
theorem iu_5_5 : f38 5 5 h = f284 5 5 := by
  rw [show f284 5 5 = 1 by rw [f284_eq]; rfl, f38_eq]
  rw [g38_4_eq, if_neg (by decide), if_neg (by decide), if_neg (by decide)]
theorem i_05 (b : 0 ≤ x.toInt ∧ x.toInt ≤ 5) : x = 0 ∨ x = 1 ∨ x = 2 ∨ x = 3 ∨ x = 4 ∨ x = 5 := by
  rcases (show x.toInt = 0 ∨ x.toInt = 1 ∨ x.toInt = 2 ∨ x.toInt = 3 ∨ x.toInt = 4 ∨ x.toInt = 5 by omega) with t | t | t | t | t | t
  · exact Or.inl (i_eq t k_0 rfl)
  · exact Or.inr (Or.inl (i_eq t k_1 rfl))
  · exact Or.inr (Or.inr (Or.inl (i_eq t k_2 rfl)))
  · exact Or.inr (Or.inr (Or.inr (Or.inl (i_eq t k_3 rfl))))
  · exact Or.inr (Or.inr (Or.inr (Or.inr (Or.inl (i_eq t k_4 rfl)))))
  · exact Or.inr (Or.inr (Or.inr (Or.inr (Or.inr (i_eq t k_5 rfl)))))
theorem iu_all (bx : 0 ≤ x.toInt ∧ x.toInt ≤ 5) (by' : 0 ≤ y.toInt ∧ y.toInt ≤ 5) : f38 x y h = f284 x y := by
  rcases i_05 bx with rfl | rfl | rfl | rfl | rfl | rfl
  · rcases i_05 by' with rfl | rfl | rfl | rfl | rfl | rfl
    · exact iu_0_0
    · exact iu_0_1
    · exact iu_0_2
    · exact iu_0_3
    · exact iu_0_4
    · exact iu_0_5
  · rcases i_05 by' with rfl | rfl | rfl | rfl | rfl | rfl
    · exact iu_1_0
    · exact iu_1_1
    · exact iu_1_2
    · exact iu_1_3
    · exact iu_1_4
    · exact iu_1_5
  · rcases i_05 by' with rfl | rfl | rfl | rfl | rfl | rfl
    · exact iu_2_0
    · exact iu_2_1
    · exact iu_2_2
    · exact iu_2_3
    · exact iu_2_4
    · exact iu_2_5
  · rcases i_05 by' with rfl | rfl | rfl | rfl | rfl | rfl
    · exact iu_3_0
    · exact iu_3_1
    · exact iu_3_2
    · exact iu_3_3
    · exact iu_3_4
    · exact iu_3_5
  · rcases i_05 by' with rfl | rfl | rfl | rfl | rfl | rfl
    · exact iu_4_0
    · exact iu_4_1
    · exact iu_4_2
    · exact iu_4_3
    · exact iu_4_4
    · exact iu_4_5
  · rcases i_05 by' with rfl | rfl | rfl | rfl | rfl | rfl
    · exact iu_5_0
    · exact iu_5_1
    · exact iu_5_2
    · exact iu_5_3
    · exact iu_5_4
    · exact iu_5_5
theorem aw_taken (I : sf_I hr) (A : rs_A hc hr S N) (K : rt_S hc hr N) : f155 a1 a2 hc = f307 a1 a2 hr := by
  obtain ⟨A1, A2, A3, A4, A5, A6, A7, A8, A9, A10⟩ := A
  have L := f155_eq a1 a2 hc
  have T := f307_eq a1 a2 hr
  rw [f161_eq, f162_eq, w_ws, w_ws] at L
  rw [f300_eq] at T
  by_cases c1 : f173 a1 0 5 = 0
  · rw [if_pos c1] at L T
    rw [L, T]
  · obtain ⟨s, s6, ht⟩ := sh_in c1
    rw [if_neg c1, i_cl ht] at L T
    by_cases c2 : f173 a2 0 5 ≠ 0
    · rw [if_pos c2] at L T
      have b2 : 0 ≤ a2.toInt ∧ a2.toInt ≤ 5 := Classical.byContradiction fun q => c2 (w173_0 rfl k_0 k_5 q)
      rcases K s s6 with ⟨q1, q2⟩ | ⟨q1, b, q2, q3, q4⟩ | ⟨q, q0, q1, q2, q3⟩
      · rw [if_neg (fun z => z q1)] at L
        rw [if_neg (fun z => z q2)] at T
        rw [L, T]
      · rw [if_pos (show hc.2.1 (.inl 95) s ≠ -2 by rw [q1]; decide), if_neg (fun z => z q1), i_cl q3, if_pos (show f163 (hc.2.1 (.inl 97) s) hc ≠ 0 by
          rw [f163_eq, w157_1 q3 k_0 (i_sub A5 k_1 (by omega) (by omega)) (by omega)]
          exact n10)] at L
        rw [if_pos (show hr.2.1 (.inl 163) s ≠ -1 from i_ne q4 k_m1 (by omega)), if_neg (i_nlt q4 k_0 (by omega)), i_cl q4] at T
        have kd := (A10 b q2).1
        have kb := sf_rd (lo := 0) (hi := 5) (r := 328) I (.inl 116) b rfl (by decide)
        rw [kd, iu_all kb b2] at L
        rw [L, T]
      · rw [if_pos (show hc.2.1 (.inl 95) s ≠ -2 from i_ne q1 k_m2 (by omega)), if_pos (show hc.2.1 (.inl 95) s ≠ -1 from i_ne q1 k_m1 (by omega))] at L
        rw [if_pos (show hr.2.1 (.inl 163) s ≠ -1 from i_ne q2 k_m1 (by omega)), if_pos (i_lt q2 k_0 (by omega))] at T
        rw [L, T]
    · rw [if_neg c2] at L T
      rw [L, T]
end RTH
