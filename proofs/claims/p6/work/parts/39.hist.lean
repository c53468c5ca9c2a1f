/-! ===== class: references to shapes, and the history ===== -/
theorem sf_uR {h : mx_H} {n i : Nat} {v : Option mx_A} (hI : sf_I h) (hn : n = 85 ∨ n = 92) (hv : ∀ b, v = some b → ∃ j, b = .inr (j, 0)) : sf_I (mx_uR h (.inl n) i v) := by
  refine ⟨hI.1, fun a k b hs hb => ?_, ⟨⟨hI.2.2.1.1, hI.2.2.1.2.1, hI.2.2.1.2.2.1, ?_⟩, hI.2.2.2⟩⟩
  · by_cases q : a = .inl n ∧ k = i
    · exact hv b ((show (mx_uR h (.inl n) i v).2.2.2 a k = v from if_pos q).symm.trans hb)
    · exact hI.2.1 a k b hs ((show (mx_uR h (.inl n) i v).2.2.2 a k = h.2.2.2 a k from if_neg q).symm.trans hb)
  · obtain ⟨m, h1, h2, h3, h4⟩ := hI.2.2.1.2.2.2
    refine ⟨m, ?_, h2, h3, fun k j hk => h4 k j ?_⟩
    · exact (if_neg (fun q => by have := Sum.inl.inj q.1; omega)).trans h1
    · exact (show (mx_uR h (.inl n) i v).2.2.2 (.inl 3) k = h.2.2.2 (.inl 3) k from if_neg (fun q => by have := Sum.inl.inj q.1; omega)).symm.trans hk
theorem sf_ER {m : Nat} {h h' : mx_H} {a : mx_A} {i r : Nat} {v : Option mx_A} (e : sf_rr a = r) (hb : m.testBit r = true) (hE : sf_E m h h') : sf_E m h (mx_uR h' a i v) := by
  subst e
  refine ⟨hE.1, fun b j hf => ?_, hE.2.2⟩
  have q : ¬ (b = a ∧ j = i) := fun q => by
    rw [q.1, hb] at hf
    cases hf
  exact (if_neg q).trans (hE.2.1 b j hf)
theorem sf_vs {j : Nat} : ∀ b, (some (.inr (j, 0)) : Option mx_A) = some b → ∃ j, b = .inr (j, 0) := fun b e => ⟨j, (Option.some.inj e).symm⟩
theorem sf_vn : ∀ b, (none : Option mx_A) = some b → ∃ j, b = .inr (j, 0) := fun b e => nomatch e
theorem sf_Jg3 {h h' : mx_H} (o : ∀ n i, n ≠ 84 ∧ n ≠ 86 ∧ n ≠ 87 → sf_jf h' (.inl n) i = sf_jf h (.inl n) i) (o2 : ∀ q i, sf_jf h' (.inr q) i = sf_jf h (.inr q) i) (eR : h'.2.2.2 = h.2.2.2) (en : h'.1 = h.1) (hJ : sf_J h) (h3 : sf_J3 (sf_jf h')) : sf_J h' := by
  unfold sf_J
  rw [eR, en]
  exact ⟨⟨sf_J1_c (fun j q i _ => o2 (j, q) i) hJ.1.1, sf_J2_c (o _ _ (by decide)) (fun j => o _ j (by decide)) (fun j => o _ j (by decide)) hJ.1.2.1, h3, sf_J4_c (o _ _ (by decide)) hJ.1.2.2.2⟩, sf_JR_c (fun k j hk => o k j (by omega)) hJ.2⟩
theorem sf_84 {h : mx_H} {i : Nat} (hi : i = 0 ∨ i = 1) : sf_jf h (.inl 84) i = (h.2.1 (.inl 84) i).toInt := by
  rcases hi with rfl | rfl
  · exact sf_jfr (r := 190) rfl rfl
  · exact sf_jfr (r := 191) rfl rfl
theorem sf_J3s {h : mx_H} {u v : Int32} (hJ : sf_J h) (hs : u.toInt + v.toInt ≤ (h.2.1 (.inl 84) 0).toInt + (h.2.1 (.inl 84) 1).toInt) : sf_J (mx_uI (mx_uI h (.inl 84) 0 u) (.inl 84) 1 v) := by
  have o : ∀ n i, n ≠ 84 → sf_jf (mx_uI (mx_uI h (.inl 84) 0 u) (.inl 84) 1 v) (.inl n) i = sf_jf h (.inl n) i := fun n i hn => (sf_jf_o (fun q => hn (Sum.inl.inj q.1))).trans (sf_jf_o (fun q => hn (Sum.inl.inj q.1)))
  refine sf_Jg3 (h := h) (fun n i hn => o n i hn.1) (fun q i => (sf_jf_o (fun q => by cases q.1)).trans (sf_jf_o (fun q => by cases q.1))) rfl rfl hJ ?_
  have h3 := hJ.1.2.2.1
  unfold sf_J3 at *
  rw [sf_84 (Or.inl rfl), sf_84 (Or.inr rfl)] at *
  rw [show (mx_uI (mx_uI h (.inl 84) 0 u) (.inl 84) 1 v).2.1 (.inl 84) 0 = u from rfl, show (mx_uI (mx_uI h (.inl 84) 0 u) (.inl 84) 1 v).2.1 (.inl 84) 1 = v from rfl]
  refine ⟨by omega, fun k hk => ?_⟩
  rw [o _ _ (by decide), o _ _ (by decide)]
  exact h3.2 k (by omega)
theorem sf_J3d {h : mx_H} {u : Int32} (hJ : sf_J h) (hs : u.toInt ≤ (h.2.1 (.inl 84) 0).toInt) : sf_J (mx_uI h (.inl 84) 0 u) := by
  have o : ∀ n i, n ≠ 84 → sf_jf (mx_uI h (.inl 84) 0 u) (.inl n) i = sf_jf h (.inl n) i := fun n i hn => sf_jf_o (fun q => hn (Sum.inl.inj q.1))
  refine sf_Jg3 (h := h) (fun n i hn => o n i hn.1) (fun q i => sf_jf_o (fun q => by cases q.1)) rfl rfl hJ ?_
  have h3 := hJ.1.2.2.1
  unfold sf_J3 at *
  rw [sf_84 (Or.inl rfl), sf_84 (Or.inr rfl)] at *
  rw [show (mx_uI h (.inl 84) 0 u).2.1 (.inl 84) 0 = u from rfl, show (mx_uI h (.inl 84) 0 u).2.1 (.inl 84) 1 = h.2.1 (.inl 84) 1 from rfl]
  refine ⟨by omega, fun k hk => ?_⟩
  rw [o _ _ (by decide), o _ _ (by decide)]
  exact h3.2 k (by omega)
/-- an act of one place laid into another -/
theorem sf_J3w {h : mx_H} {i : Nat} {u v : Int32} (hJ : sf_J h) (hp : u.toInt ≤ 3 → v.toInt ≤ 5) : sf_J (mx_uI (mx_uI h (.inl 86) i u) (.inl 87) i v) := by
  have o : ∀ n k, n ≠ 86 ∧ n ≠ 87 ∨ k ≠ i → sf_jf (mx_uI (mx_uI h (.inl 86) i u) (.inl 87) i v) (.inl n) k = sf_jf h (.inl n) k := fun n k hn => (sf_jf_o (fun q => by have := Sum.inl.inj q.1; have := q.2; omega)).trans (sf_jf_o (fun q => by have := Sum.inl.inj q.1; have := q.2; omega))
  refine sf_Jg3 (h := h) (fun n i hn => o n i (by omega)) (fun q i => (sf_jf_o (fun q => by cases q.1)).trans (sf_jf_o (fun q => by cases q.1))) rfl rfl hJ ?_
  have h3 := hJ.1.2.2.1
  refine ⟨?_, fun k hk q => ?_⟩
  · rw [o _ _ (by omega), o _ _ (by omega)]
    exact h3.1
  · rw [o 84 _ (by omega), o 84 _ (by omega)] at hk
    by_cases e : k = i
    · subst e
      rw [sf_jfr (r := 198) rfl rfl, sf_ro (by decide), sf_rs] at q
      rw [sf_jfr (r := 199) rfl rfl, sf_rs]
      exact hp q
    · rw [o _ _ (Or.inr e)] at q ⊢
      exact h3.2 k hk q
theorem sf_j3x {h : mx_H} {k : Int32} (hI : sf_I h) (h0 : 0 ≤ k.toInt) (hk : k.toInt < (h.2.1 (.inl 84) 0).toInt + (h.2.1 (.inl 84) 1).toInt) : 4 ≤ (h.2.1 (.inl 86) k.toNatClampNeg).toInt ∨ (h.2.1 (.inl 87) k.toNatClampNeg).toInt ≤ 5 := by
  have h3 := hI.2.2.1.2.2.1.2 k.toNatClampNeg (by rw [sf_84 (Or.inl rfl), sf_84 (Or.inr rfl), sf_cl h0]; exact hk)
  rw [sf_jfr (r := 198) rfl rfl, sf_jfr (r := 199) rfl rfl] at h3
  by_cases q : (h.2.1 (.inl 86) k.toNatClampNeg).toInt ≤ 3
  · exact Or.inr (h3 q)
  · exact Or.inl (by omega)
theorem sf_J3mv {h : mx_H} {x y : Int32} (hI : sf_I h) (h0 : 0 ≤ y.toInt) (hy : y.toInt < (h.2.1 (.inl 84) 0).toInt + (h.2.1 (.inl 84) 1).toInt) : sf_J (mx_uI (mx_uI h (.inl 86) x.toNatClampNeg (h.2.1 (.inl 86) y.toNatClampNeg)) (.inl 87) x.toNatClampNeg (h.2.1 (.inl 87) y.toNatClampNeg)) :=
  sf_J3w hI.2.2 (fun q => by have := sf_j3x hI h0 hy; omega)
theorem sf_j3s {h : mx_H} (hI : sf_I h) : (h.2.1 (.inl 84) 0).toInt + (h.2.1 (.inl 84) 1).toInt ≤ 40 := by
  have h3 := hI.2.2.1.2.2.1.1
  rw [sf_84 (Or.inl rfl), sf_84 (Or.inr rfl)] at h3
  exact h3
