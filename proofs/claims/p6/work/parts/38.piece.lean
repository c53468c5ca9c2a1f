/-! ===== class: a further piece ===== -/
theorem sf_ro {h : mx_H} {a b : mx_A} {i k : Nat} {v : Int32} (q : ¬ b = a) : (mx_uI h a i v).2.1 b k = h.2.1 b k := if_neg (fun e => q e.1)
theorem sf_roi {h : mx_H} {a b : mx_A} {i k : Nat} {v : Int32} (q : ¬ k = i) : (mx_uI h a i v).2.1 b k = h.2.1 b k := if_neg (fun e => q e.2)
theorem sf_rs {h : mx_H} {a : mx_A} {i : Nat} {v : Int32} : (mx_uI h a i v).2.1 a i = v := if_pos ⟨rfl, rfl⟩
theorem sf_r5 {h : mx_H} {j j' i k : Nat} {v : Int32} : (mx_uI h (.inr (j, 5)) i v).2.1 (.inr (j', 0)) k = h.2.1 (.inr (j', 0)) k := sf_ro (fun q => by have := (sf_ir q).2; omega)
theorem sf_r6 {h : mx_H} {j j' i k : Nat} {v : Int32} : (mx_uI h (.inr (j, 6)) i v).2.1 (.inr (j', 0)) k = h.2.1 (.inr (j', 0)) k := sf_ro (fun q => by have := (sf_ir q).2; omega)
theorem sf_r7 {h : mx_H} {j j' i k : Nat} {v : Int32} : (mx_uI h (.inr (j, 7)) i v).2.1 (.inr (j', 0)) k = h.2.1 (.inr (j', 0)) k := sf_ro (fun q => by have := (sf_ir q).2; omega)
theorem sf_r8 {h : mx_H} {j j' i k : Nat} {v : Int32} : (mx_uI h (.inr (j, 8)) i v).2.1 (.inr (j', 0)) k = h.2.1 (.inr (j', 0)) k := sf_ro (fun q => by have := (sf_ir q).2; omega)
theorem sf_oo {j j' o o' : Nat} (q : ¬ o = o') : ¬ (Sum.inr (j, o) : mx_A) = .inr (j', o') := fun e => q (sf_ir e).2
section SFP
variable {E : mx_Ev} {d : Nat} {h : mx_H} {Q : Option mx_V → mx_H → Prop}
theorem sf63 {t0 : Nat} {a1 a2 a3 : Int32} (pa1 : sf_iv 0 5 a1) (pa2 : sf_iv 0 5 a2) (pa3 : sf_iv 0 9 a3) (r0 : a1.toInt < (h.2.1 (.inr (t0, 0)) 0).toInt) (r1 : a2.toInt < (h.2.1 (.inr (t0, 0)) 0).toInt) (hI : sf_I h) (hQ : ∀ h', sf_I h' → sf_E 2420938064718869591760848781833023919411709340255937974172079043343665637084331614386515347232638986802440836980431388672 h h' → ((h.2.1 (.inr (t0, 0)) 6).toInt < 15 → (h'.2.1 (.inr (t0, 0)) 6).toInt = (h.2.1 (.inr (t0, 0)) 6).toInt + 1) → Q none h') : mx_C E (mx_fn true) (d + 1) 63 [.inr (.inr (t0, 0)), .inl (.int a1), .inl (.int a2), .inl (.int a3)] h Q := by
  obtain ⟨N, hN, hs⟩ := sf_of (b := 15) (sf_rd (r := 385) (lo := 0) (hi := 15) hI (.inr (t0, 0)) 6 rfl rfl)
  refine sg63_0 ⟨fun g => ?_, fun g => hQ _ hI (sf_E0 _ _) (fun q => absurd (Int32.lt_iff_toInt_lt.mpr q) g)⟩
  have hN5 : N < 15 := by
    rw [hs] at g
    have := Int32.lt_iff_toInt_lt.mp g
    rw [nI_toInt (by omega), show (15 : Int32).toInt = 15 from rfl] at this
    omega
  simp only [sf_r5, sf_r6, sf_r7, sf_r8]
  have hv : vp_in (h.2.1 (.inr (t0, 0)) 6) 15 := by
    rw [hs]
    exact vp_in_nI hN5 (by decide)
  have hc : (h.2.1 (.inr (t0, 0)) 6).toNatClampNeg = N := by
    rw [hs]
    exact nI_clamp (by omega)
  have hp : (h.2.1 (.inr (t0, 0)) 6).toInt = N := by
    rw [hs]
    exact nI_toInt (by omega)
  refine ⟨hv, hv, hv, hv, ?_⟩
  rw [hc]
  generalize hm1 : (if a2 < a1 then a2 else a1) = m1
  generalize hm2 : (if a1 < a2 then a2 else a1) = m2
  have q1 : sf_iv 0 5 m1 ∧ m1.toInt < (h.2.1 (.inr (t0, 0)) 0).toInt := by
    subst hm1
    by_cases c : a2 < a1
    · rw [if_pos c]
      exact ⟨pa2, r1⟩
    · rw [if_neg c]
      exact ⟨pa1, r0⟩
  have q2 : sf_iv 0 5 m2 ∧ m2.toInt < (h.2.1 (.inr (t0, 0)) 0).toInt := by
    subst hm2
    by_cases c : a1 < a2
    · rw [if_pos c]
      exact ⟨pa2, r1⟩
    · rw [if_neg c]
      exact ⟨pa1, r0⟩
  have I1 : sf_I (mx_uI h (.inr (t0, 5)) N m1) := sf_uJ (r := 396) hI rfl q1.1 (by decide) (sf_Jat (Or.inl rfl) hI.2.2 (by omega))
  have I2 : sf_I (mx_uI (mx_uI h (.inr (t0, 5)) N m1) (.inr (t0, 6)) N m2) := sf_uJ (r := 397) I1 rfl q2.1 (by decide) (sf_Jat (Or.inr rfl) I1.2.2 (by rw [sf_r5]; omega))
  have I3 : sf_I (mx_uI (mx_uI (mx_uI h (.inr (t0, 5)) N m1) (.inr (t0, 6)) N m2) (.inr (t0, 7)) N a3) := sf_uI (r := 398) I2 rfl pa3 (by decide)
  have I4 : sf_I (mx_uI (mx_uI (mx_uI (mx_uI h (.inr (t0, 5)) N m1) (.inr (t0, 6)) N m2) (.inr (t0, 7)) N a3) (.inr (t0, 8)) N 0) := sf_uI (r := 399) I3 rfl (iv_k (n := 0) rfl) (by decide)
  have e5 : ((mx_uI (mx_uI (mx_uI (mx_uI h (.inr (t0, 5)) N m1) (.inr (t0, 6)) N m2) (.inr (t0, 7)) N a3) (.inr (t0, 8)) N 0).2.1 (.inr (t0, 5)) N) = m1 := by
    rw [sf_ro (sf_oo (by decide)), sf_ro (sf_oo (by decide)), sf_ro (sf_oo (by decide)), sf_rs]
  have e6 : ((mx_uI (mx_uI (mx_uI (mx_uI h (.inr (t0, 5)) N m1) (.inr (t0, 6)) N m2) (.inr (t0, 7)) N a3) (.inr (t0, 8)) N 0).2.1 (.inr (t0, 6)) N) = m2 := by
    rw [sf_ro (sf_oo (by decide)), sf_ro (sf_oo (by decide)), sf_rs]
  have I5 : sf_I (mx_uI (mx_uI (mx_uI (mx_uI (mx_uI h (.inr (t0, 5)) N m1) (.inr (t0, 6)) N m2) (.inr (t0, 7)) N a3) (.inr (t0, 8)) N 0) (.inr (t0, 0)) 6 (h.2.1 (.inr (t0, 0)) 6 + 1)) := by
    refine sf_uJ (r := 385) (lo := 0) (hi := 15) I4 rfl ?_ (by decide) (sf_Jpp I4.2.2 ?_)
    · rw [hs, nI_1]
      exact sf_nI (by omega) (by decide)
    · intro k hk1 hk2
      rw [sf_r8, sf_r7, sf_r6, sf_r5, hp] at hk1
      rw [hs, nI_1, nI_toInt (by omega)] at hk2
      have : k = N := by omega
      subst this
      rw [e5, e6, sf_r8, sf_r7, sf_r6, sf_r5]
      exact ⟨q1.2, q2.2⟩
  refine hQ _ I5 (sf_Eu (r := 385) rfl (by decide) (sf_Eu (r := 399) rfl (by decide) (sf_Eu (r := 398) rfl (by decide) (sf_Eu (r := 397) rfl (by decide) (sf_Eu (r := 396) rfl (by decide) (sf_E0 _ _)))))) (fun _ => ?_)
  rw [sf_rs, hs, nI_1, nI_toInt (by omega), nI_toInt (by omega)]
  omega
end SFP
