/-! ===== reference: bodies ===== -/
theorem sf_Jk5 {h h' : mx_H} (o : ∀ n i, n ≠ 117 ∧ ¬ (n = 105 ∧ i = 12) → sf_jf h' (.inl n) i = sf_jf h (.inl n) i) (o2 : ∀ q i, sf_jf h' (.inr q) i = sf_jf h (.inr q) i) (eR : h'.2.2.2 = h.2.2.2) (en : h'.1 = h.1) (hJ : sf_J h) (h5 : sf_K5 (sf_jf h')) : sf_J h' := by
  unfold sf_J
  rw [eR, en]
  obtain ⟨hC, k1, k2, k3, k4, k5⟩ := hJ
  refine ⟨sf_JC_c (fun k i hk => o k i (by omega)) o2 hC, ?_, ?_, ?_, ?_, h5⟩
  · unfold sf_K1 at *
    simp only [o 105 24 (by decide), o 105 25 (by decide), o 123 _ (by simp), o 124 _ (by simp), o 125 _ (by simp), o 126 _ (by simp)]
    exact k1
  · unfold sf_K2 at *
    simp only [o 105 1 (by decide), o 106 _ (by simp), o 107 _ (by simp)]
    exact k2
  · unfold sf_K3 at *
    simp only [o 105 1 (by decide), o 113 _ (by simp), o 111 _ (by simp)]
    exact k3
  · unfold sf_K4 at *
    simp only [o 105 1 (by decide), o 113 _ (by simp)]
    exact k4
theorem sf_bo0 {h : mx_H} : sf_jf h (.inl 105) 12 = (h.2.1 (.inl 105) 12).toInt := sf_jfr (r := 236) rfl rfl
theorem sf_bo1 {h : mx_H} {i : Nat} : sf_jf h (.inl 117) i = (h.2.1 (.inl 117) i).toInt := sf_jfr (r := 329) rfl rfl
theorem sf_K5at {h : mx_H} {x v : Int32} (hI : sf_I h) (hx : (h.2.1 (.inl 105) 12).toInt ≤ x.toInt) : sf_J (mx_uI h (.inl 117) x.toNatClampNeg v) := by
  have z1 := (sf_rd (r := 236) (lo := 0) (hi := 200) hI (.inl 105) 12 rfl rfl).1
  have hc := sf_cl (x := x) (by omega)
  have o : ∀ n i, ¬ (n = 117 ∧ i = x.toNatClampNeg) → sf_jf (mx_uI h (.inl 117) x.toNatClampNeg v) (.inl n) i = sf_jf h (.inl n) i := fun n i hn => sf_JRo _ _ hn
  refine sf_Jk5 (h := h) (fun n i hn => o n i (by omega)) (fun q i => sf_jf_o (fun q => by cases q.1)) rfl rfl hI.2.2 ?_
  intro b hb h0
  rw [o 105 12 (by omega)] at hb
  have hb' := hb
  rw [sf_bo0] at hb'
  rw [o 117 b (by omega)] at h0 ⊢
  obtain ⟨s, p, q, q1, q2, q3, q4, q5, q6⟩ := hI.2.2.2.2.2.2.2 b hb h0
  refine ⟨s, p, q, q1, ?_, ?_, ?_, q5, ?_⟩
  · rw [o 105 1 (by omega)]
    exact q2
  · rw [o 106 s (by omega)]
    exact q3
  · rw [o 106 s (by omega)]
    exact q4
  · rw [o 113 _ (by omega)]
    exact q6
theorem sf_K5pp {h : mx_H} {x v : Int32} (hI : sf_I h) (hx : x.toInt = (h.2.1 (.inl 105) 12).toInt) (hv : v.toInt = (h.2.1 (.inl 105) 12).toInt + 1) (hl : (h.2.1 (.inl 117) x.toNatClampNeg).toInt ≤ 0) : sf_J (mx_uI h (.inl 105) 12 v) := by
  have z1 := (sf_rd (r := 236) (lo := 0) (hi := 200) hI (.inl 105) 12 rfl rfl).1
  have hc := sf_cl (x := x) (by omega)
  have o : ∀ n i, ¬ (n = 105 ∧ i = 12) → sf_jf (mx_uI h (.inl 105) 12 v) (.inl n) i = sf_jf h (.inl n) i := fun n i hn => sf_JRo _ _ hn
  refine sf_Jk5 (h := h) (fun n i hn => o n i (by omega)) (fun q i => sf_jf_o (fun q => by cases q.1)) rfl rfl hI.2.2 ?_
  intro b hb h0
  rw [sf_bo0, sf_rs, hv] at hb
  rw [o 117 b (by omega)] at h0 ⊢
  by_cases e : (b : Int) < (h.2.1 (.inl 105) 12).toInt
  · obtain ⟨s, p, q, q1, q2, q3, q4, q5, q6⟩ := hI.2.2.2.2.2.2.2 b (by rw [sf_bo0]; exact e) h0
    refine ⟨s, p, q, q1, ?_, ?_, ?_, q5, ?_⟩
    · rw [o 105 1 (by omega)]
      exact q2
    · rw [o 106 s (by omega)]
      exact q3
    · rw [o 106 s (by omega)]
      exact q4
    · rw [o 113 _ (by omega)]
      exact q6
  · exfalso
    have : b = x.toNatClampNeg := by omega
    subst this
    rw [sf_bo1] at h0
    omega
