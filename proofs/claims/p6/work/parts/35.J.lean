/-! ===== what holds between ints, behind a write ===== -/
/-- the ints of the J regions behind a write -/
theorem sf_jfu {h : mx_H} {a : mx_A} {i r : Nat} {v : Int32} (e : sf_rg a i = r) (hj : sf_jr r = true) (b : mx_A) (j : Nat) : sf_jf (mx_uI h a i v) b j = if b = a ∧ j = i then v.toInt else sf_jf h b j := by
  subst e
  unfold sf_jf
  by_cases q : b = a ∧ j = i
  · rw [if_pos q, q.1, q.2, hj, cond_true]
    exact congrArg Int32.toInt (if_pos ⟨rfl, rfl⟩)
  · rw [if_neg q, show (mx_uI h a i v).2.1 b j = h.2.1 b j from if_neg q]
theorem sf_jfr {h : mx_H} {a : mx_A} {i r : Nat} (e : sf_rg a i = r) (hj : sf_jr r = true) : sf_jf h a i = (h.2.1 a i).toInt := by
  subst e
  unfold sf_jf
  rw [hj, cond_true]
/-- a write to a J region: bounds and what holds between ints must be shown -/
theorem sf_uJ {h : mx_H} {a : mx_A} {i r : Nat} {v : Int32} {lo hi : Int} (hI : sf_I h) (e : sf_rg a i = r) (p : sf_iv lo hi v) (hc : (decide ((sf_bR r).1 ≤ lo) && decide (hi ≤ (sf_bR r).2)) = true) (hJ : sf_J (mx_uI h a i v)) : sf_I (mx_uI h a i v) := by
  subst e
  simp only [Bool.and_eq_true, decide_eq_true_eq] at hc
  refine ⟨fun b j => ?_, hI.2.1, hJ⟩
  by_cases q : b = a ∧ j = i
  · obtain ⟨rfl, rfl⟩ := q
    exact iv_s ⟨Int.le_trans hc.1 p.1, Int.le_trans p.2 hc.2⟩
  · exact iv_e (if_neg q) (hI.1 b j)
/-- bounds and shapes alone, without what holds between ints -/
def sf_B (h : mx_H) : Prop := (∀ a i, sf_iv (sf_bd a i).1 (sf_bd a i).2 (h.2.1 a i)) ∧ (∀ a i b, sf_sr a i = true → h.2.2.2 a i = some b → ∃ j, b = .inr (j, 0))
theorem sf_I.B {h : mx_H} (hI : sf_I h) : sf_B h := ⟨hI.1, hI.2.1⟩
theorem sf_B.I {h : mx_H} (hB : sf_B h) (hJ : sf_J h) : sf_I h := ⟨hB.1, hB.2, hJ⟩
theorem sf_rdB {h : mx_H} {r : Nat} {lo hi : Int} (hB : sf_B h) (a : mx_A) (i : Nat) (e : sf_rg a i = r) (e2 : sf_bR r = (lo, hi)) : sf_iv lo hi (h.2.1 a i) := by
  have p := hB.1 a i
  unfold sf_bd at p
  rw [e, e2] at p
  exact p
theorem sf_uB {h : mx_H} {a : mx_A} {i r : Nat} {v : Int32} {lo hi : Int} (hB : sf_B h) (e : sf_rg a i = r) (p : sf_iv lo hi v) (hc : (decide ((sf_bR r).1 ≤ lo) && decide (hi ≤ (sf_bR r).2)) = true) : sf_B (mx_uI h a i v) := by
  subst e
  simp only [Bool.and_eq_true, decide_eq_true_eq] at hc
  refine ⟨fun b j => ?_, hB.2⟩
  by_cases q : b = a ∧ j = i
  · obtain ⟨rfl, rfl⟩ := q
    exact iv_s ⟨Int.le_trans hc.1 p.1, Int.le_trans p.2 hc.2⟩
  · exact iv_e (if_neg q) (hB.1 b j)
/-! each part hangs on its own cells alone -/
theorem sf_J1_c {f g : mx_A → Nat → Int} (e : ∀ j o i, (o = 0 ∨ o = 5 ∨ o = 6) → g (.inr (j, o)) i = f (.inr (j, o)) i) (h : sf_J1 f) : sf_J1 g := by
  intro j k hk
  rw [e j 0 6 (Or.inl rfl)] at hk
  rw [e j 0 0 (Or.inl rfl), e j 5 k (Or.inr (Or.inl rfl)), e j 6 k (Or.inr (Or.inr rfl))]
  exact h j k hk
theorem sf_J2_c {f g : mx_A → Nat → Int} (e0 : g (.inl 60) 1 = f (.inl 60) 1) (e1 : ∀ i, g (.inl 61) i = f (.inl 61) i) (e2 : ∀ i, g (.inl 62) i = f (.inl 62) i) (h : sf_J2 f) : sf_J2 g := by
  intro k hk q
  rw [e0] at hk
  rw [e1] at q
  rw [e2]
  exact h k hk q
theorem sf_J3_c {f g : mx_A → Nat → Int} (e0 : g (.inl 84) 0 = f (.inl 84) 0) (e1 : g (.inl 84) 1 = f (.inl 84) 1) (e2 : ∀ i, g (.inl 86) i = f (.inl 86) i) (e3 : ∀ i, g (.inl 87) i = f (.inl 87) i) (h : sf_J3 f) : sf_J3 g := by
  unfold sf_J3
  rw [e0, e1]
  refine ⟨h.1, fun k hk q => ?_⟩
  rw [e2] at q
  rw [e3]
  exact h.2 k hk q
theorem sf_J4_c {f g : mx_A → Nat → Int} {R : mx_A → Nat → Option mx_A} {n : Nat} (e : g (.inl 0) 2 = f (.inl 0) 2) (h : sf_J4 f R n) : sf_J4 g R n := by
  obtain ⟨m, h1, h2, h3⟩ := h
  exact ⟨m, h1, h2, e.trans h3.1, h3.2⟩
theorem sf_JR_c {f g : mx_A → Nat → Int} (e : ∀ n i, 105 ≤ n → g (.inl n) i = f (.inl n) i) (h : sf_JR f) : sf_JR g := by
  have e105 : ∀ i, g (.inl 105) i = f (.inl 105) i := fun i => e 105 i (by decide)
  have e106 : ∀ i, g (.inl 106) i = f (.inl 106) i := fun i => e 106 i (by decide)
  have e107 : ∀ i, g (.inl 107) i = f (.inl 107) i := fun i => e 107 i (by decide)
  have e111 : ∀ i, g (.inl 111) i = f (.inl 111) i := fun i => e 111 i (by decide)
  have e113 : ∀ i, g (.inl 113) i = f (.inl 113) i := fun i => e 113 i (by decide)
  have e117 : ∀ i, g (.inl 117) i = f (.inl 117) i := fun i => e 117 i (by decide)
  have e123 : ∀ i, g (.inl 123) i = f (.inl 123) i := fun i => e 123 i (by decide)
  have e124 : ∀ i, g (.inl 124) i = f (.inl 124) i := fun i => e 124 i (by decide)
  have e125 : ∀ i, g (.inl 125) i = f (.inl 125) i := fun i => e 125 i (by decide)
  have e126 : ∀ i, g (.inl 126) i = f (.inl 126) i := fun i => e 126 i (by decide)
  unfold sf_JR sf_K1 sf_K2 sf_K3 sf_K4 sf_K5 at *
  simp only [e105, e106, e107, e111, e113, e117, e123, e124, e125, e126]
  exact h
theorem sf_JC_c {f g : mx_A → Nat → Int} {R : mx_A → Nat → Option mx_A} {n : Nat} (e : ∀ k i, k < 105 → g (.inl k) i = f (.inl k) i) (e2 : ∀ q i, g (.inr q) i = f (.inr q) i) (h : sf_JC f R n) : sf_JC g R n :=
  ⟨sf_J1_c (fun j o i _ => e2 (j, o) i) h.1, sf_J2_c (e _ _ (by decide)) (fun i => e _ i (by decide)) (fun i => e _ i (by decide)) h.2.1, sf_J3_c (e _ _ (by decide)) (e _ _ (by decide)) (fun i => e _ i (by decide)) (fun i => e _ i (by decide)) h.2.2.1, sf_J4_c (e _ _ (by decide)) h.2.2.2⟩
