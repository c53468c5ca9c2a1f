/-! ===== writes where more is known than bounds, one by one ===== -/
theorem sf_ir {j j' o o' : Nat} (q : (Sum.inr (j, o) : mx_A) = .inr (j', o')) : j = j' ∧ o = o' := by
  injection q with t
  injection t with t1 t2
  exact ⟨t1, t2⟩
theorem sf_Jg1 {h h' : mx_H} (o : ∀ k i, sf_jf h' (.inl k) i = sf_jf h (.inl k) i) (eR : h'.2.2.2 = h.2.2.2) (en : h'.1 = h.1) (hJ : sf_J h) (h1 : sf_J1 (sf_jf h')) : sf_J h' := by
  unfold sf_J
  rw [eR, en]
  exact ⟨⟨h1, sf_J2_c (o _ _) (fun j => o _ j) (fun j => o _ j) hJ.1.2.1, sf_J3_c (o _ _) (o _ _) (fun j => o _ j) (fun j => o _ j) hJ.1.2.2.1, sf_J4_c (o _ _) hJ.1.2.2.2⟩, sf_JR_c (fun k j _ => o k j) hJ.2⟩
/-- a shape without corners and pieces -/
theorem sf_Jcl {h : mx_H} {j : Nat} (hJ : sf_J h) : sf_J (mx_uI (mx_uI h (.inr (j, 0)) 0 0) (.inr (j, 0)) 6 0) := by
  refine sf_Jg1 (h := h) (fun k i => (sf_jf_o (fun q => by cases q.1)).trans (sf_jf_o (fun q => by cases q.1))) rfl rfl hJ ?_
  intro j' k hk
  by_cases e : j' = j
  · subst e
    rw [sf_jfu (r := 385) rfl rfl, if_pos ⟨rfl, rfl⟩, show (0 : Int32).toInt = 0 from rfl] at hk
    omega
  · have n0 : ∀ o i, sf_jf (mx_uI (mx_uI h (.inr (j, 0)) 0 0) (.inr (j, 0)) 6 0) (.inr (j', o)) i = sf_jf h (.inr (j', o)) i := fun o i => (sf_jf_o (fun q => e (sf_ir q.1).1)).trans (sf_jf_o (fun q => e (sf_ir q.1).1))
    rw [n0] at hk
    rw [n0, n0, n0]
    exact hJ.1.1 j' k hk
/-- more corners -/
theorem sf_Jup {h : mx_H} {j : Nat} {v : Int32} (hJ : sf_J h) (hv : (h.2.1 (.inr (j, 0)) 0).toInt ≤ v.toInt) : sf_J (mx_uI h (.inr (j, 0)) 0 v) := by
  refine sf_Jg1 (h := h) (fun k i => sf_jf_o (fun q => by cases q.1)) rfl rfl hJ ?_
  intro j' k hk
  rw [sf_jf_o (fun q => by cases q.2)] at hk
  rw [sf_jf_o (b := .inr (j', 5)) (fun q => by have := (sf_ir q.1).2; omega), sf_jf_o (b := .inr (j', 6)) (fun q => by have := (sf_ir q.1).2; omega)]
  have p := hJ.1.1 j' k hk
  have e2 : sf_jf h (.inr (j', 0)) 0 ≤ sf_jf (mx_uI h (.inr (j, 0)) 0 v) (.inr (j', 0)) 0 := by
    by_cases e : j' = j
    · subst e
      rw [sf_jfu (r := 379) rfl rfl, if_pos ⟨rfl, rfl⟩, sf_jfr (r := 379) rfl rfl]
      exact hv
    · rw [sf_jf_o (fun q => e (sf_ir q.1).1)]
      exact Int.le_refl _
  exact ⟨Int.lt_of_lt_of_le p.1 e2, Int.lt_of_lt_of_le p.2 e2⟩
/-- what lies behind the pieces does not matter -/
theorem sf_Jat {h : mx_H} {j o i : Nat} {v : Int32} (ho : o = 5 ∨ o = 6) (hJ : sf_J h) (hi : (h.2.1 (.inr (j, 0)) 6).toInt ≤ i) : sf_J (mx_uI h (.inr (j, o)) i v) := by
  refine sf_Jg1 (h := h) (fun k i => sf_jf_o (fun q => by cases q.1)) rfl rfl hJ ?_
  have z : ∀ j' i', sf_jf (mx_uI h (.inr (j, o)) i v) (.inr (j', 0)) i' = sf_jf h (.inr (j', 0)) i' := fun j' i' => sf_jf_o (fun q => by have := (sf_ir q.1).2; omega)
  intro j' k hk
  rw [z] at hk
  have y : ∀ o', sf_jf (mx_uI h (.inr (j, o)) i v) (.inr (j', o')) k = sf_jf h (.inr (j', o')) k := fun o' => sf_jf_o (fun q => by
    have e1 := (sf_ir q.1).1
    subst e1
    rw [sf_jfr (r := 385) rfl rfl] at hk
    have := q.2
    omega)
  rw [z, y, y]
  exact hJ.1.1 j' k hk
/-- more pieces -/
theorem sf_Jpp {h : mx_H} {j : Nat} {v : Int32} (hJ : sf_J h) (hv : ∀ k : Nat, (h.2.1 (.inr (j, 0)) 6).toInt ≤ k → (k : Int) < v.toInt → (h.2.1 (.inr (j, 5)) k).toInt < (h.2.1 (.inr (j, 0)) 0).toInt ∧ (h.2.1 (.inr (j, 6)) k).toInt < (h.2.1 (.inr (j, 0)) 0).toInt) : sf_J (mx_uI h (.inr (j, 0)) 6 v) := by
  refine sf_Jg1 (h := h) (fun k i => sf_jf_o (fun q => by cases q.1)) rfl rfl hJ ?_
  intro j' k hk
  rw [sf_jf_o (b := .inr (j', 0)) (fun q => by cases q.2), sf_jf_o (b := .inr (j', 5)) (fun q => by have := (sf_ir q.1).2; omega), sf_jf_o (b := .inr (j', 6)) (fun q => by have := (sf_ir q.1).2; omega)]
  by_cases e : j' = j
  · subst e
    rw [sf_jfu (r := 385) rfl rfl, if_pos ⟨rfl, rfl⟩] at hk
    by_cases g : (k : Int) < (h.2.1 (.inr (j', 0)) 6).toInt
    · exact hJ.1.1 j' k (by rw [sf_jfr (r := 385) rfl rfl]; exact g)
    · have := hv k (by omega) hk
      rw [sf_jfr (a := .inr (j', 0)) (r := 379) rfl rfl, sf_jfr (a := .inr (j', 5)) (r := 396) rfl rfl, sf_jfr (a := .inr (j', 6)) (r := 397) rfl rfl]
      exact this
  · rw [sf_jf_o (fun q => e (sf_ir q.1).1)] at hk
    exact hJ.1.1 j' k hk
theorem sf_JwR {h : mx_H} {n i : Nat} {v : Int32} (hn : 105 ≤ n) (hJ : sf_J h) (hR : sf_JR (sf_jf (mx_uI h (.inl n) i v))) : sf_J (mx_uI h (.inl n) i v) :=
  ⟨sf_JC_c (fun k i hk => sf_jf_o (fun q => by have := Sum.inl.inj q.1; omega)) (fun q i => sf_jf_o (fun q => by cases q.1)) hJ.1, hR⟩
/-- what lies behind the shapes does not matter -/
theorem sf_Kb {h : mx_H} {n i : Nat} {v : Int32} (hI : sf_I h) (hn : n = 106 ∧ (h.2.1 (.inl 105) 1).toInt ≤ i ∨ n = 107 ∧ 6 * (h.2.1 (.inl 105) 1).toInt ≤ i ∨ (n = 111 ∨ n = 113) ∧ 36 * (h.2.1 (.inl 105) 1).toInt ≤ i) : sf_J (mx_uI h (.inl n) i v) := by
  have o : ∀ n' i', ¬ (n' = n ∧ i' = i) → sf_jf (mx_uI h (.inl n) i v) (.inl n') i' = sf_jf h (.inl n') i' := fun n' i' hne => sf_jf_o (fun q => hne ⟨Sum.inl.inj q.1, q.2⟩)
  obtain ⟨k1, k2, k3, k4, k5⟩ := hI.2.2.2
  have s0 : sf_jf h (.inl 105) 1 = (h.2.1 (.inl 105) 1).toInt := sf_jfr (r := 225) rfl rfl
  rw [← s0] at hn
  have c6 : ∀ s, sf_jf h (.inl 106) s ≤ 6 := fun s => by
    rw [sf_jfr (r := 318) rfl rfl]
    exact (sf_rd (r := 318) (lo := 0) (hi := 6) hI (.inl 106) s rfl rfl).2
  have e105 : ∀ i', sf_jf (mx_uI h (.inl n) i v) (.inl 105) i' = sf_jf h (.inl 105) i' := fun i' => o _ _ (by omega)
  refine sf_JwR (by omega) hI.2.2 ⟨?_, ?_, ?_, ?_, ?_⟩
  · unfold sf_K1 at *
    rw [e105, e105]
    refine ⟨k1.1, fun k hk => ?_⟩
    rw [o 123 k (by omega), o 124 k (by omega), o 125 k (by omega), o 126 k (by omega)]
    exact k1.2 k hk
  · intro s c hs hc
    rw [e105] at hs
    rw [o 106 s (by omega)] at hc
    have := c6 s
    rw [o 107 _ (by omega)]
    exact k2 s c hs hc
  · intro p hp h0
    rw [e105] at hp
    rw [o 113 p (by omega)] at h0
    rw [o 111 p (by omega)]
    exact k3 p hp h0
  · intro s a b hs ha hb
    rw [e105] at hs
    rw [o 113 _ (by omega), o 113 _ (by omega)]
    exact k4 s a b hs ha hb
  · intro b hb h0
    rw [e105] at hb
    rw [o 117 b (by omega)] at h0 ⊢
    obtain ⟨s, x, y, q1, q2, q3, q4, q5, q6⟩ := k5 b hb h0
    have := c6 s
    refine ⟨s, x, y, q1, ?_, ?_, ?_, q5, ?_⟩
    · rw [e105]
      exact q2
    · rw [o 106 s (by omega)]
      exact q3
    · rw [o 106 s (by omega)]
      exact q4
    · rw [o 113 _ (by omega)]
      exact q6
theorem sf_cl {x : Int32} (h0 : 0 ≤ x.toInt) : ((x.toNatClampNeg : Nat) : Int) = x.toInt := by
  show ((x.toInt.toNat : Nat) : Int) = _
  omega
theorem sf_Kb106 {h : mx_H} {x v : Int32} (hI : sf_I h) (hx : (h.2.1 (.inl 105) 1).toInt ≤ x.toInt) : sf_J (mx_uI h (.inl 106) x.toNatClampNeg v) := by
  have := (sf_rd (r := 225) (lo := 0) (hi := 12) hI (.inl 105) 1 rfl rfl).1
  refine sf_Kb hI (Or.inl ⟨rfl, ?_⟩)
  rw [sf_cl (by omega)]
  exact hx
theorem sf_Kb107 {h : mx_H} {x v : Int32} (hI : sf_I h) (hx : 6 * (h.2.1 (.inl 105) 1).toInt ≤ x.toInt) : sf_J (mx_uI h (.inl 107) x.toNatClampNeg v) := by
  have := (sf_rd (r := 225) (lo := 0) (hi := 12) hI (.inl 105) 1 rfl rfl).1
  refine sf_Kb hI (Or.inr (Or.inl ⟨rfl, ?_⟩))
  rw [sf_cl (by omega)]
  exact hx
theorem sf_Kb111 {h : mx_H} {x v : Int32} (hI : sf_I h) (hx : 36 * (h.2.1 (.inl 105) 1).toInt ≤ x.toInt) : sf_J (mx_uI h (.inl 111) x.toNatClampNeg v) := by
  have := (sf_rd (r := 225) (lo := 0) (hi := 12) hI (.inl 105) 1 rfl rfl).1
  refine sf_Kb hI (Or.inr (Or.inr ⟨Or.inl rfl, ?_⟩))
  rw [sf_cl (by omega)]
  exact hx
theorem sf_Kb113 {h : mx_H} {x v : Int32} (hI : sf_I h) (hx : 36 * (h.2.1 (.inl 105) 1).toInt ≤ x.toInt) : sf_J (mx_uI h (.inl 113) x.toNatClampNeg v) := by
  have := (sf_rd (r := 225) (lo := 0) (hi := 12) hI (.inl 105) 1 rfl rfl).1
  refine sf_Kb hI (Or.inr (Or.inr ⟨Or.inr rfl, ?_⟩))
  rw [sf_cl (by omega)]
  exact hx
