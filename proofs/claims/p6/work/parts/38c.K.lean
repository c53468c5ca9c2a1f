/-! ===== reference: the acts kept, and pieces told anew ===== -/
theorem sf_Kbp {h : mx_H} {p : Nat} {b s c : Int32} (hI : sf_I h) (pb : sf_iv 0 201 b) (ps : sf_iv 0 9 s) (pc : sf_iv 0 9 c) (hp : 36 * (h.2.1 (.inl 105) 1).toInt ≤ p) : sf_I (sx_p h p b s c) := by
  have I1 : sf_I (mx_uI h (.inl 113) p b) := sf_uJ (r := 325) hI rfl pb (by decide) (sf_Kb hI (Or.inr (Or.inr ⟨Or.inr rfl, hp⟩)))
  have I2 : sf_I (mx_uI (mx_uI h (.inl 113) p b) (.inl 111) p s) := sf_uJ (r := 323) I1 rfl ps (by decide) (sf_Kb I1 (Or.inr (Or.inr ⟨Or.inl rfl, hp⟩)))
  exact sf_uI (r := 324) I2 rfl pc (by decide)
theorem sf_Ep {m : Nat} {h h' : mx_H} {p : Nat} {b s c : Int32} (h1 : m.testBit 325 = true) (h2 : m.testBit 323 = true) (h3 : m.testBit 324 = true) (hE : sf_E m h h') : sf_E m h (sx_p h' p b s c) := sf_Eu (r := 324) rfl h3 (sf_Eu (r := 323) rfl h2 (sf_Eu (r := 325) rfl h1 hE))
theorem sf199 {E : mx_Ev} {d : Nat} {h : mx_H} {Q : Option mx_V → mx_H → Prop} {a1 a2 a3 : Int32} (pa1 : sf_iv 0 467 a1) (pa2 : sf_iv 0 9 a2) (pa3 : sf_iv 0 9 a3) (r0 : 36 * (h.2.1 (.inl 105) 1).toInt ≤ a1.toInt ∨ (h.2.1 (.inl 113) a1.toNatClampNeg).toInt ≤ 0 ∨ 1 ≤ a2.toInt) (hI : sf_I h) (hQ : ∀ h', sf_I h' → sf_E 119615274011570964614121215545494918417751453251972555117034330038044304643715870801285876868448256 h h' → Q none h') : mx_C E (mx_fn true) (d + 2) 199 [.inr (.inl 105), .inl (.int a1), .inl (.int a2), .inl (.int a3)] h Q := by
  obtain ⟨p, hp, rfl⟩ := sf_of (b := 467) pa1
  rw [nI_clamp (by omega), nI_toInt (by omega)] at r0
  obtain ⟨S, A, B, hS, hA, hB, rfl⟩ : ∃ S A B : Nat, S ≤ 12 ∧ A ≤ 5 ∧ B ≤ 5 ∧ p = 36 * S + 6 * A + B := ⟨p / 36, p / 6 % 6, p % 6, by omega, by omega, by omega, by omega⟩
  refine sx199 hS hA hB (hQ _ ?_ (sf_Ep (by decide) (by decide) (by decide) (sf_Ep (by decide) (by decide) (by decide) (sf_E0 _ _))))
  have n0 := sf_rd (r := 225) (lo := 0) (hi := 12) hI (.inl 105) 1 rfl rfl
  have pb := sf_rd (r := 325) (lo := 0) (hi := 201) hI (.inl 113) (36 * S + 6 * A + B) rfl rfl
  by_cases c : (S : Int) < (h.2.1 (.inl 105) 1).toInt
  · have k4 : h.2.1 (.inl 113) (36 * S + 6 * B + A) = h.2.1 (.inl 113) (36 * S + 6 * A + B) := by
      have := hI.2.2.2.2.2.2.1 S B A (by rw [sf_jfr (r := 225) rfl rfl]; exact c) (by omega) (by omega)
      rw [sf_r1, sf_r1] at this
      exact Int32.toInt_inj.mp this
    have hs : 0 < (h.2.1 (.inl 113) (36 * S + 6 * A + B)).toInt → 1 ≤ a2.toInt := fun q => by omega
    have I1 := sf_Kp (p := 36 * S + 6 * A + B) hI rfl pa2 pa3 hs
    refine sf_Kp I1 ?_ pa2 pa3 hs
    unfold sx_p
    rw [sf_ro (by decide), sf_ro (by decide)]
    by_cases q : 36 * S + 6 * B + A = 36 * S + 6 * A + B
    · rw [q, sf_rs]
    · rw [sf_roi q, k4]
  · have I1 := sf_Kbp (p := 36 * S + 6 * A + B) hI pb pa2 pa3 (by omega)
    exact sf_Kbp I1 pb pa2 pa3 (show 36 * (h.2.1 (.inl 105) 1).toInt ≤ _ by omega)
/-- only the acts' cells differ -/
theorem sf_Jk1 {h h' : mx_H} (o : ∀ n i, n ≠ 105 ∧ n ≠ 123 ∧ n ≠ 124 ∧ n ≠ 125 ∧ n ≠ 126 ∨ n = 105 ∧ i ≠ 24 ∧ i ≠ 25 → sf_jf h' (.inl n) i = sf_jf h (.inl n) i) (o2 : ∀ q i, sf_jf h' (.inr q) i = sf_jf h (.inr q) i) (eR : h'.2.2.2 = h.2.2.2) (en : h'.1 = h.1) (hJ : sf_J h) (h1 : sf_K1 (sf_jf h')) : sf_J h' := by
  unfold sf_J
  rw [eR, en]
  obtain ⟨hC, k1, k2, k3, k4, k5⟩ := hJ
  refine ⟨sf_JC_c (fun k i hk => o k i (by omega)) o2 hC, h1, ?_, ?_, ?_, ?_⟩
  · unfold sf_K2 at *
    simp only [o 105 1 (by decide), o 106 _ (by simp), o 107 _ (by simp)]
    exact k2
  · unfold sf_K3 at *
    simp only [o 105 1 (by decide), o 113 _ (by simp), o 111 _ (by simp)]
    exact k3
  · unfold sf_K4 at *
    simp only [o 105 1 (by decide), o 113 _ (by simp)]
    exact k4
  · unfold sf_K5 at *
    simp only [o 105 1 (by decide), o 105 12 (by decide), o 106 _ (by simp), o 113 _ (by simp), o 117 _ (by simp)]
    exact k5
theorem sf_10 {h : mx_H} {i : Nat} (hi : i = 24 ∨ i = 25) : sf_jf h (.inl 105) i = (h.2.1 (.inl 105) i).toInt := by
  rcases hi with rfl | rfl
  · exact sf_jfr (r := 248) rfl rfl
  · exact sf_jfr (r := 249) rfl rfl
theorem sf_K1s {h : mx_H} {u v : Int32} (hJ : sf_J h) (hs : u.toInt + v.toInt ≤ (h.2.1 (.inl 105) 24).toInt + (h.2.1 (.inl 105) 25).toInt) : sf_J (mx_uI (mx_uI h (.inl 105) 24 u) (.inl 105) 25 v) := by
  have o : ∀ n i, ¬ (n = 105 ∧ (i = 24 ∨ i = 25)) → sf_jf (mx_uI (mx_uI h (.inl 105) 24 u) (.inl 105) 25 v) (.inl n) i = sf_jf h (.inl n) i := fun n i hn => (sf_JRo _ _ (by omega)).trans (sf_JRo _ _ (by omega))
  refine sf_Jk1 (h := h) (fun n i hn => o n i (by omega)) (fun q i => (sf_jf_o (fun q => by cases q.1)).trans (sf_jf_o (fun q => by cases q.1))) rfl rfl hJ ?_
  have k1 := hJ.2.1
  unfold sf_K1 at *
  rw [sf_10 (Or.inl rfl), sf_10 (Or.inr rfl)] at *
  rw [show (mx_uI (mx_uI h (.inl 105) 24 u) (.inl 105) 25 v).2.1 (.inl 105) 24 = u from rfl, show (mx_uI (mx_uI h (.inl 105) 24 u) (.inl 105) 25 v).2.1 (.inl 105) 25 = v from rfl]
  refine ⟨by omega, fun k hk => ?_⟩
  rw [o _ _ (by omega), o _ _ (by omega), o _ _ (by omega), o _ _ (by omega)]
  exact k1.2 k (by omega)
theorem sf_K1d {h : mx_H} {i : Nat} {u : Int32} (hi : i = 24 ∨ i = 25) (hJ : sf_J h) (hs : u.toInt ≤ (h.2.1 (.inl 105) i).toInt) : sf_J (mx_uI h (.inl 105) i u) := by
  have o : ∀ n i', ¬ (n = 105 ∧ i' = i) → sf_jf (mx_uI h (.inl 105) i u) (.inl n) i' = sf_jf h (.inl n) i' := fun n i' hn => sf_JRo _ _ hn
  refine sf_Jk1 (h := h) (fun n i hn => o n i (by omega)) (fun q i => sf_jf_o (fun q => by cases q.1)) rfl rfl hJ ?_
  have k1 := hJ.2.1
  have a : sf_jf (mx_uI h (.inl 105) i u) (.inl 105) 24 + sf_jf (mx_uI h (.inl 105) i u) (.inl 105) 25 ≤ sf_jf h (.inl 105) 24 + sf_jf h (.inl 105) 25 := by
    rcases hi with rfl | rfl
    · rw [o 105 25 (by omega), sf_10 (Or.inl rfl), sf_10 (h := h) (Or.inl rfl), sf_rs]
      omega
    · rw [o 105 24 (by omega), sf_10 (Or.inr rfl), sf_10 (h := h) (i := 25) (Or.inr rfl), sf_rs]
      omega
  refine ⟨Int.le_trans a k1.1, fun k hk => ?_⟩
  rw [o _ _ (by omega), o _ _ (by omega), o _ _ (by omega), o _ _ (by omega)]
  exact k1.2 k (Int.lt_of_lt_of_le hk a)
/-- behind the acts told nothing matters -/
theorem sf_K1at {h : mx_H} {n : Nat} {x v : Int32} (hn : n = 123 ∨ n = 124 ∨ n = 125 ∨ n = 126) (hI : sf_I h) (hs : (h.2.1 (.inl 105) 24).toInt + (h.2.1 (.inl 105) 25).toInt ≤ x.toInt) : sf_J (mx_uI h (.inl n) x.toNatClampNeg v) := by
  have z1 := (sf_rd (r := 248) (lo := 0) (hi := 40) hI (.inl 105) 24 rfl rfl).1
  have z2 := (sf_rd (r := 249) (lo := 0) (hi := 40) hI (.inl 105) 25 rfl rfl).1
  have hx := sf_cl (x := x) (by omega)
  have o : ∀ n' i', ¬ (n' = n ∧ i' = x.toNatClampNeg) → sf_jf (mx_uI h (.inl n) x.toNatClampNeg v) (.inl n') i' = sf_jf h (.inl n') i' := fun n' i' hn => sf_JRo _ _ hn
  refine sf_Jk1 (h := h) (fun n' i hn' => o n' i (by omega)) (fun q i => sf_jf_o (fun q => by cases q.1)) rfl rfl hI.2.2 ?_
  have k1 := hI.2.2.2.1
  unfold sf_K1 at *
  rw [o 105 _ (by omega), o 105 _ (by omega)]
  refine ⟨k1.1, fun k hk => ?_⟩
  have hk' := hk
  rw [sf_10 (Or.inl rfl), sf_10 (Or.inr rfl)] at hk'
  rw [o _ _ (by omega), o _ _ (by omega), o _ _ (by omega), o _ _ (by omega)]
  exact k1.2 k hk
theorem sf_k1x {h : mx_H} {k : Int32} (hI : sf_I h) (h0 : 0 ≤ k.toInt) (hk : k.toInt < (h.2.1 (.inl 105) 24).toInt + (h.2.1 (.inl 105) 25).toInt) : ((h.2.1 (.inl 123) k.toNatClampNeg).toInt = 3 ∨ (h.2.1 (.inl 123) k.toNatClampNeg).toInt = 4 ∨ (h.2.1 (.inl 124) k.toNatClampNeg).toInt < 78) ∧ (¬ (h.2.1 (.inl 123) k.toNatClampNeg).toInt = 4 ∧ ¬ (h.2.1 (.inl 123) k.toNatClampNeg).toInt = 5 ∨ 1 ≤ (h.2.1 (.inl 125) k.toNatClampNeg).toInt ∧ 1 ≤ (h.2.1 (.inl 126) k.toNatClampNeg).toInt) := by
  have h3 := hI.2.2.2.1.2 k.toNatClampNeg (by rw [sf_10 (Or.inl rfl), sf_10 (Or.inr rfl), sf_cl h0]; exact hk)
  rw [sf_jfr (a := .inl 123) (r := 335) rfl rfl, sf_jfr (a := .inl 124) (r := 336) rfl rfl, sf_jfr (a := .inl 125) (r := 337) rfl rfl, sf_jfr (a := .inl 126) (r := 338) rfl rfl] at h3
  omega
theorem sf_k1s {h : mx_H} (hI : sf_I h) : (h.2.1 (.inl 105) 24).toInt + (h.2.1 (.inl 105) 25).toInt ≤ 40 := by
  have h3 := hI.2.2.2.1.1
  rw [sf_10 (Or.inl rfl), sf_10 (Or.inr rfl)] at h3
  exact h3
/-- an act moved to another place -/
theorem sf_K1mv {h : mx_H} {x y : Int32} (hI : sf_I h) (h0 : 0 ≤ y.toInt) (hy : y.toInt < (h.2.1 (.inl 105) 24).toInt + (h.2.1 (.inl 105) 25).toInt) : sf_J (mx_uI (mx_uI (mx_uI (mx_uI h (.inl 123) x.toNatClampNeg (h.2.1 (.inl 123) y.toNatClampNeg)) (.inl 124) x.toNatClampNeg (h.2.1 (.inl 124) y.toNatClampNeg)) (.inl 125) x.toNatClampNeg (h.2.1 (.inl 125) y.toNatClampNeg)) (.inl 126) x.toNatClampNeg (h.2.1 (.inl 126) y.toNatClampNeg)) := by
  generalize hg : (mx_uI (mx_uI (mx_uI (mx_uI h (.inl 123) x.toNatClampNeg (h.2.1 (.inl 123) y.toNatClampNeg)) (.inl 124) x.toNatClampNeg (h.2.1 (.inl 124) y.toNatClampNeg)) (.inl 125) x.toNatClampNeg (h.2.1 (.inl 125) y.toNatClampNeg)) (.inl 126) x.toNatClampNeg (h.2.1 (.inl 126) y.toNatClampNeg)) = h'
  have o : ∀ n i, ¬ ((n = 123 ∨ n = 124 ∨ n = 125 ∨ n = 126) ∧ i = x.toNatClampNeg) → sf_jf h' (.inl n) i = sf_jf h (.inl n) i := fun n i hn => by
    subst hg
    exact (sf_JRo _ _ (by omega)).trans ((sf_JRo _ _ (by omega)).trans ((sf_JRo _ _ (by omega)).trans (sf_JRo _ _ (by omega))))
  have e1 : h'.2.1 (.inl 123) x.toNatClampNeg = h.2.1 (.inl 123) y.toNatClampNeg := by
    subst hg
    rw [sf_ro (by decide), sf_ro (by decide), sf_ro (by decide), sf_rs]
  have e2 : h'.2.1 (.inl 124) x.toNatClampNeg = h.2.1 (.inl 124) y.toNatClampNeg := by
    subst hg
    rw [sf_ro (by decide), sf_ro (by decide), sf_rs]
  have e3 : h'.2.1 (.inl 125) x.toNatClampNeg = h.2.1 (.inl 125) y.toNatClampNeg := by
    subst hg
    rw [sf_ro (by decide), sf_rs]
  have e4 : h'.2.1 (.inl 126) x.toNatClampNeg = h.2.1 (.inl 126) y.toNatClampNeg := by
    subst hg
    rw [sf_rs]
  have k1 := hI.2.2.2.1
  have kx := sf_k1x hI h0 hy
  refine sf_Jk1 (h := h) (fun n i hn => o n i (by omega)) (fun q i => by subst hg; exact (sf_jf_o (fun q => by cases q.1)).trans ((sf_jf_o (fun q => by cases q.1)).trans ((sf_jf_o (fun q => by cases q.1)).trans (sf_jf_o (fun q => by cases q.1))))) (by subst hg; rfl) (by subst hg; rfl) hI.2.2 ?_
  unfold sf_K1 at *
  rw [o 105 _ (by omega), o 105 _ (by omega)]
  refine ⟨k1.1, fun k hk => ?_⟩
  by_cases e : k = x.toNatClampNeg
  · subst e
    rw [sf_jfr (a := .inl 123) (r := 335) rfl rfl, sf_jfr (a := .inl 124) (r := 336) rfl rfl, sf_jfr (a := .inl 125) (r := 337) rfl rfl, sf_jfr (a := .inl 126) (r := 338) rfl rfl, e1, e2, e3, e4]
    omega
  · rw [o _ _ (by omega), o _ _ (by omega), o _ _ (by omega), o _ _ (by omega)]
    exact k1.2 k hk
/-- one act more -/
theorem sf_K1pp {h : mx_H} {x1 x2 x3 x4 v : Int32} (hI : sf_I h) (q1 : x1.toInt = (h.2.1 (.inl 105) 24).toInt) (q2 : x2.toInt = (h.2.1 (.inl 105) 24).toInt) (q3 : x3.toInt = (h.2.1 (.inl 105) 24).toInt) (q4 : x4.toInt = (h.2.1 (.inl 105) 24).toInt) (qv : v.toInt = (h.2.1 (.inl 105) 24).toInt + 1) (qu : (h.2.1 (.inl 105) 25).toInt ≤ 0) (qd : (h.2.1 (.inl 105) 24).toInt < 40)
    (c1 : (h.2.1 (.inl 123) x1.toNatClampNeg).toInt = 3 ∨ (h.2.1 (.inl 123) x1.toNatClampNeg).toInt = 4 ∨ (h.2.1 (.inl 124) x2.toNatClampNeg).toInt < 78) (c2 : ¬ (h.2.1 (.inl 123) x1.toNatClampNeg).toInt = 4 ∧ ¬ (h.2.1 (.inl 123) x1.toNatClampNeg).toInt = 5 ∨ 1 ≤ (h.2.1 (.inl 125) x3.toNatClampNeg).toInt ∧ 1 ≤ (h.2.1 (.inl 126) x4.toNatClampNeg).toInt) : sf_J (mx_uI h (.inl 105) 24 v) := by
  have z1 := (sf_rd (r := 248) (lo := 0) (hi := 40) hI (.inl 105) 24 rfl rfl).1
  have z2 := (sf_rd (r := 249) (lo := 0) (hi := 40) hI (.inl 105) 25 rfl rfl).1
  have e2 : x2 = x1 := Int32.toInt_inj.mp (q2.trans q1.symm)
  have e3 : x3 = x1 := Int32.toInt_inj.mp (q3.trans q1.symm)
  have e4 : x4 = x1 := Int32.toInt_inj.mp (q4.trans q1.symm)
  rw [e2] at c1
  rw [e3, e4] at c2
  have hx := sf_cl (x := x1) (by omega)
  have o : ∀ n i, ¬ (n = 105 ∧ i = 24) → sf_jf (mx_uI h (.inl 105) 24 v) (.inl n) i = sf_jf h (.inl n) i := fun n i hn => sf_JRo _ _ hn
  refine sf_Jk1 (h := h) (fun n i hn => o n i (by omega)) (fun q i => sf_jf_o (fun q => by cases q.1)) rfl rfl hI.2.2 ?_
  have k1 := hI.2.2.2.1
  unfold sf_K1 at *
  rw [sf_10 (Or.inl rfl), sf_10 (Or.inr rfl)] at *
  rw [show (mx_uI h (.inl 105) 24 v).2.1 (.inl 105) 24 = v from rfl, show (mx_uI h (.inl 105) 24 v).2.1 (.inl 105) 25 = h.2.1 (.inl 105) 25 from rfl]
  refine ⟨by omega, fun k hk => ?_⟩
  rw [o _ _ (by omega), o _ _ (by omega), o _ _ (by omega), o _ _ (by omega)]
  by_cases e : k = x1.toNatClampNeg
  · subst e
    rw [sf_jfr (a := .inl 123) (r := 335) rfl rfl, sf_jfr (a := .inl 124) (r := 336) rfl rfl, sf_jfr (a := .inl 125) (r := 337) rfl rfl, sf_jfr (a := .inl 126) (r := 338) rfl rfl]
    omega
  · exact k1.2 k (by omega)
/-- a corner stays heavy -/
theorem sf_K2w {h : mx_H} {i : Nat} {v : Int32} (hJ : sf_J h) (hv : 1 ≤ v.toInt) : sf_J (mx_uI h (.inl 107) i v) := by
  have o : ∀ n i', ¬ (n = 107 ∧ i' = i) → sf_jf (mx_uI h (.inl 107) i v) (.inl n) i' = sf_jf h (.inl n) i' := fun n i' hn => sf_JRo _ _ hn
  obtain ⟨hC, k1, k2, k3, k4, k5⟩ := hJ
  refine sf_JwR (by decide) ⟨hC, k1, k2, k3, k4, k5⟩ ⟨?_, ?_, ?_, ?_, ?_⟩
  · unfold sf_K1 at *
    simp only [o 105 _ (by simp), o 123 _ (by simp), o 124 _ (by simp), o 125 _ (by simp), o 126 _ (by simp)]
    exact k1
  · intro s c q1 q2
    rw [o _ _ (by omega)] at q1 q2
    by_cases e : 6 * s + c = i
    · rw [sf_jfr (r := 319) rfl rfl, e, sf_rs]
      exact hv
    · rw [o _ _ (by omega)]
      exact k2 s c q1 q2
  · unfold sf_K3 at *
    simp only [o 105 _ (by simp), o 113 _ (by simp), o 111 _ (by simp)]
    exact k3
  · unfold sf_K4 at *
    simp only [o 105 _ (by simp), o 113 _ (by simp)]
    exact k4
  · unfold sf_K5 at *
    simp only [o 105 _ (by simp), o 106 _ (by simp), o 113 _ (by simp), o 117 _ (by simp)]
    exact k5
theorem sf_k2x {h : mx_H} {x s c : Int32} (hI : sf_I h) (s0 : 0 ≤ s.toInt) (hs : s.toInt < (h.2.1 (.inl 105) 1).toInt) (c0 : 0 ≤ c.toInt) (hc : c.toInt < (h.2.1 (.inl 106) s.toNatClampNeg).toInt) (hx : x.toInt = 6 * s.toInt + c.toInt) : 1 ≤ (h.2.1 (.inl 107) x.toNatClampNeg).toInt := by
  have k2 := hI.2.2.2.2.1 s.toNatClampNeg c.toNatClampNeg (by rw [sf_jfr (r := 225) rfl rfl, sf_cl s0]; exact hs) (by rw [sf_jfr (r := 318) rfl rfl, sf_cl c0]; exact hc)
  rw [sf_jfr (r := 319) rfl rfl] at k2
  have e : x.toNatClampNeg = 6 * s.toNatClampNeg + c.toNatClampNeg := by
    have e1 := sf_cl s0
    have e2 := sf_cl c0
    have e3 := sf_cl (x := x) (by omega)
    omega
  rw [e]
  exact k2
theorem sf_k3x {h : mx_H} {x : Int32} (hI : sf_I h) (x0 : 0 ≤ x.toInt) : 36 * (h.2.1 (.inl 105) 1).toInt ≤ x.toInt ∨ (h.2.1 (.inl 113) x.toNatClampNeg).toInt ≤ 0 ∨ 1 ≤ (h.2.1 (.inl 111) x.toNatClampNeg).toInt := by
  have k3 := hI.2.2.2.2.2.1 x.toNatClampNeg
  rw [sf_r1, sf_r2, sf_jfr (r := 225) rfl rfl, sf_cl x0] at k3
  omega
