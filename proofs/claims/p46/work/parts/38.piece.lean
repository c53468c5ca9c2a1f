/-! ===== class: a further piece ===== -/
theorem sf_ro {h : mx_H} {a b : mx_A} {i k : Nat} {v : Int32} (q : ¬ b = a) : (mx_uI h a i v).2.1 b k = h.2.1 b k := if_neg (fun e => q e.1)
theorem sf_roi {h : mx_H} {a b : mx_A} {i k : Nat} {v : Int32} (q : ¬ k = i) : (mx_uI h a i v).2.1 b k = h.2.1 b k := if_neg (fun e => q e.2)
theorem sf_rs {h : mx_H} {a : mx_A} {i : Nat} {v : Int32} : (mx_uI h a i v).2.1 a i = v := if_pos ⟨rfl, rfl⟩
theorem sf_r5 {h : mx_H} {j j' i k : Nat} {v : Int32} : (mx_uI h (.inr (j, 5)) i v).2.1 (.inr (j', 0)) k = h.2.1 (.inr (j', 0)) k := sf_ro (fun q => by have := (sf_ir q).2; omega)
theorem sf_r6 {h : mx_H} {j j' i k : Nat} {v : Int32} : (mx_uI h (.inr (j, 6)) i v).2.1 (.inr (j', 0)) k = h.2.1 (.inr (j', 0)) k := sf_ro (fun q => by have := (sf_ir q).2; omega)
theorem sf_r7 {h : mx_H} {j j' i k : Nat} {v : Int32} : (mx_uI h (.inr (j, 7)) i v).2.1 (.inr (j', 0)) k = h.2.1 (.inr (j', 0)) k := sf_ro (fun q => by have := (sf_ir q).2; omega)
theorem sf_r8 {h : mx_H} {j j' i k : Nat} {v : Int32} : (mx_uI h (.inr (j, 8)) i v).2.1 (.inr (j', 0)) k = h.2.1 (.inr (j', 0)) k := sf_ro (fun q => by have := (sf_ir q).2; omega)
theorem sf_oo {j j' o o' : Nat} (q : ¬ o = o') : ¬ (Sum.inr (j, o) : mx_A) = .inr (j', o') := fun e => q (sf_ir e).2
section SFP
variable {E : mx_Ev} {d : Nat} {h : mx_H} {Q : Option mx_V → mx_H → Prop}
theorem sf63 {t0 : Nat} {a1 a2 a3 : Int32} (pa1 : sf_iv 0 5 a1) (pa2 : sf_iv 0 5 a2) (pa3 : sf_iv 0 9 a3) (r0 : a1.toInt < (h.2.1 (.inr (t0, 0)) 0).toInt) (r1 : a2.toInt < (h.2.1 (.inr (t0, 0)) 0).toInt) (hI : sf_I h) (hQ : ∀ h', sf_I h' → sf_E 2420938064718869591760848781833023919411709340255937974172079043343665637084331614386515347232638986802440836980431388672 h h' → ((h.2.1 (.inr (t0, 0)) 6).toInt < 15 → (h'.2.1 (.inr (t0, 0)) 6).toInt = (h.2.1 (.inr (t0, 0)) 6).toInt + 1) → Q none h') : mx_C E (mx_fn true) (d + 1) 63 [.inr (.inr (t0, 0)), .inl (.int a1), .inl (.int a2), .inl (.int a3)] h Q := by
  obtain ⟨N, hN, hs⟩ := sf_of (b := 15) (sf_rd (r := 385) (lo := 0) (hi := 15) hI (.inr (t0, 0)) 6 rfl rfl)
  refine sg63_0 ⟨fun g => ?_, fun g => hQ _ hI (sf_E0 _ _) (fun q => absurd (Int32.lt_iff_toInt_lt.mpr q) g)⟩
  have hN5 : N < 15 := by
    rw [hs] at g
    have := Int32.lt_iff_toInt_lt.mp g
    rw [nI_toInt (by omega), show (15 : Int32).toInt = 15 from rfl] at this
    omega
  simp only [sf_r5, sf_r6, sf_r7, sf_r8]
  have hv : vp_in (h.2.1 (.inr (t0, 0)) 6) 15 := by
    rw [hs]
    exact vp_in_nI hN5 (by decide +kernel)
  have hc : (h.2.1 (.inr (t0, 0)) 6).toNatClampNeg = N := by
    rw [hs]
    exact nI_clamp (by omega)
  have hp : (h.2.1 (.inr (t0, 0)) 6).toInt = N := by
    rw [hs]
    exact nI_toInt (by omega)
  refine ⟨hv, hv, hv, hv, ?_⟩
  rw [hc]
  generalize hm1 : (if a2 < a1 then a2 else a1) = m1
  generalize hm2 : (if a1 < a2 then a2 else a1) = m2
  have q1 : sf_iv 0 5 m1 ∧ m1.toInt < (h.2.1 (.inr (t0, 0)) 0).toInt := by
    subst hm1
    by_cases c : a2 < a1
    · rw [if_pos c]
      exact ⟨pa2, r1⟩
    · rw [if_neg c]
      exact ⟨pa1, r0⟩
  have q2 : sf_iv 0 5 m2 ∧ m2.toInt < (h.2.1 (.inr (t0, 0)) 0).toInt := by
    subst hm2
    by_cases c : a1 < a2
    · rw [if_pos c]
      exact ⟨pa2, r1⟩
    · rw [if_neg c]
      exact ⟨pa1, r0⟩
  have I1 : sf_I (mx_uI h (.inr (t0, 5)) N m1) := sf_uJ (r := 396) hI rfl q1.1 (by decide +kernel) (sf_Jat (Or.inl rfl) hI.2.2 (by omega))
  have I2 : sf_I (mx_uI (mx_uI h (.inr (t0, 5)) N m1) (.inr (t0, 6)) N m2) := sf_uJ (r := 397) I1 rfl q2.1 (by decide +kernel) (sf_Jat (Or.inr rfl) I1.2.2 (by rw [sf_r5]; omega))
  have I3 : sf_I (mx_uI (mx_uI (mx_uI h (.inr (t0, 5)) N m1) (.inr (t0, 6)) N m2) (.inr (t0, 7)) N a3) := sf_uI (r := 398) I2 rfl pa3 (by decide +kernel)
  have I4 : sf_I (mx_uI (mx_uI (mx_uI (mx_uI h (.inr (t0, 5)) N m1) (.inr (t0, 6)) N m2) (.inr (t0, 7)) N a3) (.inr (t0, 8)) N 0) := sf_uI (r := 399) I3 rfl ivk_0 (by decide +kernel)
  have e5 : ((mx_uI (mx_uI (mx_uI (mx_uI h (.inr (t0, 5)) N m1) (.inr (t0, 6)) N m2) (.inr (t0, 7)) N a3) (.inr (t0, 8)) N 0).2.1 (.inr (t0, 5)) N) = m1 := by
    rw [sf_ro (sf_oo (by decide +kernel)), sf_ro (sf_oo (by decide +kernel)), sf_ro (sf_oo (by decide +kernel)), sf_rs]
  have e6 : ((mx_uI (mx_uI (mx_uI (mx_uI h (.inr (t0, 5)) N m1) (.inr (t0, 6)) N m2) (.inr (t0, 7)) N a3) (.inr (t0, 8)) N 0).2.1 (.inr (t0, 6)) N) = m2 := by
    rw [sf_ro (sf_oo (by decide +kernel)), sf_ro (sf_oo (by decide +kernel)), sf_rs]
  have I5 : sf_I (mx_uI (mx_uI (mx_uI (mx_uI (mx_uI h (.inr (t0, 5)) N m1) (.inr (t0, 6)) N m2) (.inr (t0, 7)) N a3) (.inr (t0, 8)) N 0) (.inr (t0, 0)) 6 (h.2.1 (.inr (t0, 0)) 6 + 1)) := by
    refine sf_uJ (r := 385) (lo := 0) (hi := 15) I4 rfl ?_ (by decide +kernel) (sf_Jpp I4.2.2 ?_)
    · rw [hs, nI_1]
      exact sf_nI (by omega) (by decide +kernel)
    · intro k hk1 hk2
      rw [sf_r8, sf_r7, sf_r6, sf_r5, hp] at hk1
      rw [hs, nI_1, nI_toInt (by omega)] at hk2
      have : k = N := by omega
      subst this
      rw [e5, e6, sf_r8, sf_r7, sf_r6, sf_r5]
      exact ⟨q1.2, q2.2⟩
  refine hQ _ I5 (sf_Eu (r := 385) rfl (by decide +kernel) (sf_Eu (r := 399) rfl (by decide +kernel) (sf_Eu (r := 398) rfl (by decide +kernel) (sf_Eu (r := 397) rfl (by decide +kernel) (sf_Eu (r := 396) rfl (by decide +kernel) (sf_E0 _ _)))))) (fun _ => ?_)
  rw [sf_rs, hs, nI_1, nI_toInt (by omega), nI_toInt (by omega)]
  omega
end SFP
/-! ===== reference: setPiece, setStiff, exactly ===== -/
theorem nI_divn {n k : Nat} (hn : n < 2 ^ 31) (hk : 0 < k) (hk2 : k < 2 ^ 31) : nI n / nI k = nI (n / k) := by
  apply Int32.toInt_inj.mp
  rw [li_div (a := 0) (b := 2147483647) (k := (k : Int)) (X := (n : Int)) (x := nI n) (y := nI k) ⟨by rw [nI_toInt hn]; omega, by rw [nI_toInt hn]; omega⟩ (by simp only [Bool.and_eq_true, decide_eq_true_eq]; omega) (nI_toInt hn) (nI_toInt hk2), nI_toInt (Nat.lt_of_le_of_lt (Nat.div_le_self n k) hn)]
  exact (Int.natCast_ediv n k).symm
theorem nI_subn {a b : Nat} (h : b ≤ a) : nI a - nI b = nI (a - b) := by
  have e : nI a = nI (a - b) + nI b := by
    rw [nI_add]
    congr 1
    omega
  rw [e, Int32.add_sub_cancel]
theorem nI_36 (a b c : Nat) : 36 * nI a + 6 * nI b + nI c = nI (36 * a + 6 * b + c) := by
  rw [show (6 : Int32) = nI 6 from rfl, show (36 : Int32) = nI 36 from rfl, nI_mul, nI_mul, nI_add, nI_add]
def sx_p (h : mx_H) (p : Nat) (b s c : Int32) : mx_H := mx_uI (mx_uI (mx_uI h (.inl 113) p b) (.inl 111) p s) (.inl 112) p c
section SXS
variable {E : mx_Ev} {d : Nat} {h : mx_H} {Q : Option mx_V → mx_H → Prop}
theorem sx181 {S A B : Nat} {a4 a5 a6 : Int32} (hS : S ≤ 12) (hA : A ≤ 5) (hB : B ≤ 5) (hQ : Q none (sx_p (sx_p h (36 * S + 6 * A + B) (a4 + 1) a5 a6) (36 * S + 6 * B + A) (a4 + 1) a5 a6)) : mx_C E (mx_fn true) (d + 1) 181 [.inr (.inl 105), .inl (.int (nI S)), .inl (.int (nI A)), .inl (.int (nI B)), .inl (.int a4), .inl (.int a5), .inl (.int a6)] h Q := by
  refine sg181_0 (sg181_3 ⟨fun g => absurd g (by decide +kernel), fun _ => ⟨fun g => absurd rfl g, fun _ => sg179_0 (hx_i ?_)⟩⟩)
  rw [nI_36]
  have v1 : vp_in (nI (36 * S + 6 * A + B)) 468 := vp_in_nI (by omega) (by decide +kernel)
  refine ⟨v1, v1, v1, sg181_3 ⟨fun g => absurd g (by decide +kernel), fun _ => ⟨fun _ => sg179_0 (hx_i ?_), fun g => absurd (by decide +kernel) g⟩⟩⟩
  rw [nI_36]
  have v2 : vp_in (nI (36 * S + 6 * B + A)) 468 := vp_in_nI (by omega) (by decide +kernel)
  refine ⟨v2, v2, v2, sg181_3 ⟨fun _ => ?_, fun g => absurd (by decide +kernel) g⟩⟩
  rw [nI_clamp (by omega), nI_clamp (by omega)]
  exact hQ
theorem sx199 {S A B : Nat} {a2 a3 : Int32} (hS : S ≤ 12) (hA : A ≤ 5) (hB : B ≤ 5) (hQ : Q none (sx_p (sx_p h (36 * S + 6 * A + B) (h.2.1 (.inl 113) (36 * S + 6 * A + B)) a2 a3) (36 * S + 6 * B + A) (h.2.1 (.inl 113) (36 * S + 6 * A + B)) a2 a3)) : mx_C E (mx_fn true) (d + 2) 199 [.inr (.inl 105), .inl (.int (nI (36 * S + 6 * A + B))), .inl (.int a2), .inl (.int a3)] h Q := by
  refine sg199_0 ⟨by decide +kernel, by decide +kernel, by decide +kernel, by decide +kernel, vp_in_nI (by omega) (by decide +kernel), ?_⟩
  have e1 : nI (36 * S + 6 * A + B) / 36 = nI S := by
    rw [show (36 : Int32) = nI 36 from rfl, nI_divn (by omega) (by decide +kernel) (by decide +kernel)]
    congr 1
    omega
  have e2 : nI (36 * S + 6 * A + B) / 6 = nI (6 * S + A) := by
    rw [show (6 : Int32) = nI 6 from rfl, nI_divn (by omega) (by decide +kernel) (by decide +kernel)]
    congr 1
    omega
  have e3 : nI (6 * S + A) - nI (6 * S + A) / 6 * 6 = nI A := by
    rw [show (6 : Int32) = nI 6 from rfl, nI_divn (by omega) (by decide +kernel) (by decide +kernel), nI_mul, nI_subn (by omega)]
    congr 1
    omega
  have e4 : nI (36 * S + 6 * A + B) - nI (6 * S + A) * 6 = nI B := by
    rw [show (6 : Int32) = nI 6 from rfl, nI_mul, nI_subn (by omega)]
    congr 1
    omega
  rw [e1, e2, e3, e4, nI_clamp (by omega)]
  refine sx181 hS hA hB (hx_n ?_)
  rw [show h.2.1 (.inl 113) (36 * S + 6 * A + B) - 1 + 1 = h.2.1 (.inl 113) (36 * S + 6 * A + B) from Int32.sub_add_cancel _ _]
  exact hQ
end SXS
/-! what the reference's cells say, behind a write to them -/
theorem sf_JRo {h : mx_H} {n i : Nat} {v : Int32} : ∀ n' i', ¬ (n' = n ∧ i' = i) → sf_jf (mx_uI h (.inl n) i v) (.inl n') i' = sf_jf h (.inl n') i' := fun n' i' hne => sf_jf_o (fun q => hne ⟨Sum.inl.inj q.1, q.2⟩)
theorem sf_r1 {h : mx_H} {i : Nat} : sf_jf h (.inl 113) i = (h.2.1 (.inl 113) i).toInt := sf_jfr (r := 325) rfl rfl
theorem sf_r2 {h : mx_H} {i : Nat} : sf_jf h (.inl 111) i = (h.2.1 (.inl 111) i).toInt := sf_jfr (r := 323) rfl rfl
/-- a piece told anew: the same body, still stiff -/
theorem sf_Kp {h : mx_H} {p : Nat} {b s c : Int32} (hI : sf_I h) (hb : h.2.1 (.inl 113) p = b) (ps : sf_iv 0 9 s) (pc : sf_iv 0 9 c) (hs : 0 < b.toInt → 1 ≤ s.toInt) : sf_I (sx_p h p b s c) := by
  have e : mx_uI h (.inl 113) p b = h := by
    have e1 : mx_up h.2.1 (.inl 113) p b = h.2.1 := by
      funext a i
      unfold mx_up
      by_cases q : a = .inl 113 ∧ i = p
      · rw [if_pos q, q.1, q.2, hb]
      · rw [if_neg q]
    show (h.1, mx_up h.2.1 (.inl 113) p b, h.2.2.1, h.2.2.2) = h
    rw [e1]
  unfold sx_p
  rw [e]
  refine sf_uI (r := 324) (sf_uJ (r := 323) hI rfl ps (by decide +kernel) (sf_JwR (by decide +kernel) hI.2.2 ?_)) rfl pc (by decide +kernel)
  obtain ⟨k1, k2, k3, k4, k5⟩ := hI.2.2.2
  have o : ∀ n' i', n' ≠ 111 → sf_jf (mx_uI h (.inl 111) p s) (.inl n') i' = sf_jf h (.inl n') i' := fun n' i' hne => sf_JRo n' i' (by omega)
  refine ⟨?_, ?_, ?_, ?_, ?_⟩
  · unfold sf_K1 at *
    simp only [o 105 _ (by decide +kernel), o 123 _ (by decide +kernel), o 124 _ (by decide +kernel), o 125 _ (by decide +kernel), o 126 _ (by decide +kernel)]
    exact k1
  · intro s' c' q1 q2
    rw [o _ _ (by decide +kernel)] at q1 q2 ⊢
    exact k2 s' c' q1 q2
  · intro p' q1 q2
    rw [o _ _ (by decide +kernel)] at q1 q2
    by_cases e : p' = p
    · subst e
      rw [sf_r1, hb] at q2
      rw [sf_r2, sf_rs]
      exact hs q2
    · rw [sf_JRo _ _ (by omega)]
      exact k3 p' q1 q2
  · intro s' a' b' q1 q2 q3
    rw [o _ _ (by decide +kernel)] at q1
    rw [o _ _ (by decide +kernel), o _ _ (by decide +kernel)]
    exact k4 s' a' b' q1 q2 q3
  · unfold sf_K5 at *
    simp only [o 105 _ (by decide +kernel), o 106 _ (by decide +kernel), o 113 _ (by decide +kernel), o 117 _ (by decide +kernel)]
    exact k5
/-! ===== reference: the acts kept, and pieces told anew ===== -/
theorem sf_Kbp {h : mx_H} {p : Nat} {b s c : Int32} (hI : sf_I h) (pb : sf_iv 0 201 b) (ps : sf_iv 0 9 s) (pc : sf_iv 0 9 c) (hp : 36 * (h.2.1 (.inl 105) 1).toInt ≤ p) : sf_I (sx_p h p b s c) := by
  have I1 : sf_I (mx_uI h (.inl 113) p b) := sf_uJ (r := 325) hI rfl pb (by decide +kernel) (sf_Kb hI (Or.inr (Or.inr ⟨Or.inr rfl, hp⟩)))
  have I2 : sf_I (mx_uI (mx_uI h (.inl 113) p b) (.inl 111) p s) := sf_uJ (r := 323) I1 rfl ps (by decide +kernel) (sf_Kb I1 (Or.inr (Or.inr ⟨Or.inl rfl, hp⟩)))
  exact sf_uI (r := 324) I2 rfl pc (by decide +kernel)
theorem sf_Ep {m : Nat} {h h' : mx_H} {p : Nat} {b s c : Int32} (h1 : m.testBit 325 = true) (h2 : m.testBit 323 = true) (h3 : m.testBit 324 = true) (hE : sf_E m h h') : sf_E m h (sx_p h' p b s c) := sf_Eu (r := 324) rfl h3 (sf_Eu (r := 323) rfl h2 (sf_Eu (r := 325) rfl h1 hE))
theorem sf199 {E : mx_Ev} {d : Nat} {h : mx_H} {Q : Option mx_V → mx_H → Prop} {a1 a2 a3 : Int32} (pa1 : sf_iv 0 467 a1) (pa2 : sf_iv 0 9 a2) (pa3 : sf_iv 0 9 a3) (r0 : 36 * (h.2.1 (.inl 105) 1).toInt ≤ a1.toInt ∨ (h.2.1 (.inl 113) a1.toNatClampNeg).toInt ≤ 0 ∨ 1 ≤ a2.toInt) (hI : sf_I h) (hQ : ∀ h', sf_I h' → sf_E 119615274011570964614121215545494918417751453251972555117034330038044304643715870801285876868448256 h h' → Q none h') : mx_C E (mx_fn true) (d + 2) 199 [.inr (.inl 105), .inl (.int a1), .inl (.int a2), .inl (.int a3)] h Q := by
  obtain ⟨p, hp, rfl⟩ := sf_of (b := 467) pa1
  rw [nI_clamp (by omega), nI_toInt (by omega)] at r0
  obtain ⟨S, A, B, hS, hA, hB, rfl⟩ : ∃ S A B : Nat, S ≤ 12 ∧ A ≤ 5 ∧ B ≤ 5 ∧ p = 36 * S + 6 * A + B := ⟨p / 36, p / 6 % 6, p % 6, by omega, by omega, by omega, by omega⟩
  refine sx199 hS hA hB (hQ _ ?_ (sf_Ep (by decide +kernel) (by decide +kernel) (by decide +kernel) (sf_Ep (by decide +kernel) (by decide +kernel) (by decide +kernel) (sf_E0 _ _))))
  have n0 := sf_rd (r := 225) (lo := 0) (hi := 12) hI (.inl 105) 1 rfl rfl
  have pb := sf_rd (r := 325) (lo := 0) (hi := 201) hI (.inl 113) (36 * S + 6 * A + B) rfl rfl
  by_cases c : (S : Int) < (h.2.1 (.inl 105) 1).toInt
  · have k4 : h.2.1 (.inl 113) (36 * S + 6 * B + A) = h.2.1 (.inl 113) (36 * S + 6 * A + B) := by
      have := hI.2.2.2.2.2.2.1 S B A (by rw [sf_jfr (r := 225) rfl rfl]; exact c) (by omega) (by omega)
      rw [sf_r1, sf_r1] at this
      exact Int32.toInt_inj.mp this
    have hs : 0 < (h.2.1 (.inl 113) (36 * S + 6 * A + B)).toInt → 1 ≤ a2.toInt := fun q => by omega
    have I1 := sf_Kp (p := 36 * S + 6 * A + B) hI rfl pa2 pa3 hs
    refine sf_Kp I1 ?_ pa2 pa3 hs
    unfold sx_p
    rw [sf_ro (by decide +kernel), sf_ro (by decide +kernel)]
    by_cases q : 36 * S + 6 * B + A = 36 * S + 6 * A + B
    · rw [q, sf_rs]
    · rw [sf_roi q, k4]
  · have I1 := sf_Kbp (p := 36 * S + 6 * A + B) hI pb pa2 pa3 (by omega)
    exact sf_Kbp I1 pb pa2 pa3 (show 36 * (h.2.1 (.inl 105) 1).toInt ≤ _ by omega)
/-- only the acts' cells differ -/
theorem sf_Jk1 {h h' : mx_H} (o : ∀ n i, n ≠ 105 ∧ n ≠ 123 ∧ n ≠ 124 ∧ n ≠ 125 ∧ n ≠ 126 ∨ n = 105 ∧ i ≠ 24 ∧ i ≠ 25 → sf_jf h' (.inl n) i = sf_jf h (.inl n) i) (o2 : ∀ q i, sf_jf h' (.inr q) i = sf_jf h (.inr q) i) (eR : h'.2.2.2 = h.2.2.2) (en : h'.1 = h.1) (hJ : sf_J h) (h1 : sf_K1 (sf_jf h')) : sf_J h' := by
  unfold sf_J
  rw [eR, en]
  obtain ⟨hC, k1, k2, k3, k4, k5⟩ := hJ
  refine ⟨sf_JC_c (fun k i hk => o k i (by omega)) o2 hC, h1, ?_, ?_, ?_, ?_⟩
  · unfold sf_K2 at *
    simp only [o 105 1 (by decide +kernel), o 106 _ (by simp), o 107 _ (by simp)]
    exact k2
  · unfold sf_K3 at *
    simp only [o 105 1 (by decide +kernel), o 113 _ (by simp), o 111 _ (by simp)]
    exact k3
  · unfold sf_K4 at *
    simp only [o 105 1 (by decide +kernel), o 113 _ (by simp)]
    exact k4
  · unfold sf_K5 at *
    simp only [o 105 1 (by decide +kernel), o 105 12 (by decide +kernel), o 106 _ (by simp), o 113 _ (by simp), o 117 _ (by simp)]
    exact k5
theorem sf_10 {h : mx_H} {i : Nat} (hi : i = 24 ∨ i = 25) : sf_jf h (.inl 105) i = (h.2.1 (.inl 105) i).toInt := by
  rcases hi with rfl | rfl
  · exact sf_jfr (r := 248) rfl rfl
  · exact sf_jfr (r := 249) rfl rfl
theorem sf_K1s {h : mx_H} {u v : Int32} (hJ : sf_J h) (hs : u.toInt + v.toInt ≤ (h.2.1 (.inl 105) 24).toInt + (h.2.1 (.inl 105) 25).toInt) : sf_J (mx_uI (mx_uI h (.inl 105) 24 u) (.inl 105) 25 v) := by
  have o : ∀ n i, ¬ (n = 105 ∧ (i = 24 ∨ i = 25)) → sf_jf (mx_uI (mx_uI h (.inl 105) 24 u) (.inl 105) 25 v) (.inl n) i = sf_jf h (.inl n) i := fun n i hn => (sf_JRo _ _ (by omega)).trans (sf_JRo _ _ (by omega))
  refine sf_Jk1 (h := h) (fun n i hn => o n i (by omega)) (fun q i => (sf_jf_o (fun q => by cases q.1)).trans (sf_jf_o (fun q => by cases q.1))) rfl rfl hJ ?_
  have k1 := hJ.2.1
  unfold sf_K1 at *
  rw [sf_10 (Or.inl rfl), sf_10 (Or.inr rfl)] at *
  rw [show (mx_uI (mx_uI h (.inl 105) 24 u) (.inl 105) 25 v).2.1 (.inl 105) 24 = u from rfl, show (mx_uI (mx_uI h (.inl 105) 24 u) (.inl 105) 25 v).2.1 (.inl 105) 25 = v from rfl]
  refine ⟨by omega, fun k hk => ?_⟩
  rw [o _ _ (by omega), o _ _ (by omega), o _ _ (by omega), o _ _ (by omega)]
  exact k1.2 k (by omega)
theorem sf_K1d {h : mx_H} {i : Nat} {u : Int32} (hi : i = 24 ∨ i = 25) (hJ : sf_J h) (hs : u.toInt ≤ (h.2.1 (.inl 105) i).toInt) : sf_J (mx_uI h (.inl 105) i u) := by
  have o : ∀ n i', ¬ (n = 105 ∧ i' = i) → sf_jf (mx_uI h (.inl 105) i u) (.inl n) i' = sf_jf h (.inl n) i' := fun n i' hn => sf_JRo _ _ hn
  refine sf_Jk1 (h := h) (fun n i hn => o n i (by omega)) (fun q i => sf_jf_o (fun q => by cases q.1)) rfl rfl hJ ?_
  have k1 := hJ.2.1
  have a : sf_jf (mx_uI h (.inl 105) i u) (.inl 105) 24 + sf_jf (mx_uI h (.inl 105) i u) (.inl 105) 25 ≤ sf_jf h (.inl 105) 24 + sf_jf h (.inl 105) 25 := by
    rcases hi with rfl | rfl
    · rw [o 105 25 (by omega), sf_10 (Or.inl rfl), sf_10 (h := h) (Or.inl rfl), sf_rs]
      omega
    · rw [o 105 24 (by omega), sf_10 (Or.inr rfl), sf_10 (h := h) (i := 25) (Or.inr rfl), sf_rs]
      omega
  refine ⟨Int.le_trans a k1.1, fun k hk => ?_⟩
  rw [o _ _ (by omega), o _ _ (by omega), o _ _ (by omega), o _ _ (by omega)]
  exact k1.2 k (Int.lt_of_lt_of_le hk a)
/-- behind the acts told nothing matters -/
theorem sf_K1at {h : mx_H} {n : Nat} {x v : Int32} (hn : n = 123 ∨ n = 124 ∨ n = 125 ∨ n = 126) (hI : sf_I h) (hs : (h.2.1 (.inl 105) 24).toInt + (h.2.1 (.inl 105) 25).toInt ≤ x.toInt) : sf_J (mx_uI h (.inl n) x.toNatClampNeg v) := by
  have z1 := (sf_rd (r := 248) (lo := 0) (hi := 40) hI (.inl 105) 24 rfl rfl).1
  have z2 := (sf_rd (r := 249) (lo := 0) (hi := 40) hI (.inl 105) 25 rfl rfl).1
  have hx := sf_cl (x := x) (by omega)
  have o : ∀ n' i', ¬ (n' = n ∧ i' = x.toNatClampNeg) → sf_jf (mx_uI h (.inl n) x.toNatClampNeg v) (.inl n') i' = sf_jf h (.inl n') i' := fun n' i' hn => sf_JRo _ _ hn
  refine sf_Jk1 (h := h) (fun n' i hn' => o n' i (by omega)) (fun q i => sf_jf_o (fun q => by cases q.1)) rfl rfl hI.2.2 ?_
  have k1 := hI.2.2.2.1
  unfold sf_K1 at *
  rw [o 105 _ (by omega), o 105 _ (by omega)]
  refine ⟨k1.1, fun k hk => ?_⟩
  have hk' := hk
  rw [sf_10 (Or.inl rfl), sf_10 (Or.inr rfl)] at hk'
  rw [o _ _ (by omega), o _ _ (by omega), o _ _ (by omega), o _ _ (by omega)]
  exact k1.2 k hk
theorem sf_k1x {h : mx_H} {k : Int32} (hI : sf_I h) (h0 : 0 ≤ k.toInt) (hk : k.toInt < (h.2.1 (.inl 105) 24).toInt + (h.2.1 (.inl 105) 25).toInt) : ((h.2.1 (.inl 123) k.toNatClampNeg).toInt = 3 ∨ (h.2.1 (.inl 123) k.toNatClampNeg).toInt = 4 ∨ (h.2.1 (.inl 124) k.toNatClampNeg).toInt < 78) ∧ (¬ (h.2.1 (.inl 123) k.toNatClampNeg).toInt = 4 ∧ ¬ (h.2.1 (.inl 123) k.toNatClampNeg).toInt = 5 ∨ 1 ≤ (h.2.1 (.inl 125) k.toNatClampNeg).toInt ∧ 1 ≤ (h.2.1 (.inl 126) k.toNatClampNeg).toInt) := by
  have h3 := hI.2.2.2.1.2 k.toNatClampNeg (by rw [sf_10 (Or.inl rfl), sf_10 (Or.inr rfl), sf_cl h0]; exact hk)
  rw [sf_jfr (a := .inl 123) (r := 335) rfl rfl, sf_jfr (a := .inl 124) (r := 336) rfl rfl, sf_jfr (a := .inl 125) (r := 337) rfl rfl, sf_jfr (a := .inl 126) (r := 338) rfl rfl] at h3
  omega
theorem sf_k1s {h : mx_H} (hI : sf_I h) : (h.2.1 (.inl 105) 24).toInt + (h.2.1 (.inl 105) 25).toInt ≤ 40 := by
  have h3 := hI.2.2.2.1.1
  rw [sf_10 (Or.inl rfl), sf_10 (Or.inr rfl)] at h3
  exact h3
/-- an act moved to another place -/
theorem sf_K1mv {h : mx_H} {x y : Int32} (hI : sf_I h) (h0 : 0 ≤ y.toInt) (hy : y.toInt < (h.2.1 (.inl 105) 24).toInt + (h.2.1 (.inl 105) 25).toInt) : sf_J (mx_uI (mx_uI (mx_uI (mx_uI h (.inl 123) x.toNatClampNeg (h.2.1 (.inl 123) y.toNatClampNeg)) (.inl 124) x.toNatClampNeg (h.2.1 (.inl 124) y.toNatClampNeg)) (.inl 125) x.toNatClampNeg (h.2.1 (.inl 125) y.toNatClampNeg)) (.inl 126) x.toNatClampNeg (h.2.1 (.inl 126) y.toNatClampNeg)) := by
  generalize hg : (mx_uI (mx_uI (mx_uI (mx_uI h (.inl 123) x.toNatClampNeg (h.2.1 (.inl 123) y.toNatClampNeg)) (.inl 124) x.toNatClampNeg (h.2.1 (.inl 124) y.toNatClampNeg)) (.inl 125) x.toNatClampNeg (h.2.1 (.inl 125) y.toNatClampNeg)) (.inl 126) x.toNatClampNeg (h.2.1 (.inl 126) y.toNatClampNeg)) = h'
  have o : ∀ n i, ¬ ((n = 123 ∨ n = 124 ∨ n = 125 ∨ n = 126) ∧ i = x.toNatClampNeg) → sf_jf h' (.inl n) i = sf_jf h (.inl n) i := fun n i hn => by
    subst hg
    exact (sf_JRo _ _ (by omega)).trans ((sf_JRo _ _ (by omega)).trans ((sf_JRo _ _ (by omega)).trans (sf_JRo _ _ (by omega))))
  have e1 : h'.2.1 (.inl 123) x.toNatClampNeg = h.2.1 (.inl 123) y.toNatClampNeg := by
    subst hg
    rw [sf_ro (by decide +kernel), sf_ro (by decide +kernel), sf_ro (by decide +kernel), sf_rs]
  have e2 : h'.2.1 (.inl 124) x.toNatClampNeg = h.2.1 (.inl 124) y.toNatClampNeg := by
    subst hg
    rw [sf_ro (by decide +kernel), sf_ro (by decide +kernel), sf_rs]
  have e3 : h'.2.1 (.inl 125) x.toNatClampNeg = h.2.1 (.inl 125) y.toNatClampNeg := by
    subst hg
    rw [sf_ro (by decide +kernel), sf_rs]
  have e4 : h'.2.1 (.inl 126) x.toNatClampNeg = h.2.1 (.inl 126) y.toNatClampNeg := by
    subst hg
    rw [sf_rs]
  have k1 := hI.2.2.2.1
  have kx := sf_k1x hI h0 hy
  refine sf_Jk1 (h := h) (fun n i hn => o n i (by omega)) (fun q i => by subst hg; exact (sf_jf_o (fun q => by cases q.1)).trans ((sf_jf_o (fun q => by cases q.1)).trans ((sf_jf_o (fun q => by cases q.1)).trans (sf_jf_o (fun q => by cases q.1))))) (by subst hg; rfl) (by subst hg; rfl) hI.2.2 ?_
  unfold sf_K1 at *
  rw [o 105 _ (by omega), o 105 _ (by omega)]
  refine ⟨k1.1, fun k hk => ?_⟩
  by_cases e : k = x.toNatClampNeg
  · subst e
    rw [sf_jfr (a := .inl 123) (r := 335) rfl rfl, sf_jfr (a := .inl 124) (r := 336) rfl rfl, sf_jfr (a := .inl 125) (r := 337) rfl rfl, sf_jfr (a := .inl 126) (r := 338) rfl rfl, e1, e2, e3, e4]
    omega
  · rw [o _ _ (by omega), o _ _ (by omega), o _ _ (by omega), o _ _ (by omega)]
    exact k1.2 k hk
/-- one act more -/
theorem sf_K1pp {h : mx_H} {x1 x2 x3 x4 v : Int32} (hI : sf_I h) (q1 : x1.toInt = (h.2.1 (.inl 105) 24).toInt) (q2 : x2.toInt = (h.2.1 (.inl 105) 24).toInt) (q3 : x3.toInt = (h.2.1 (.inl 105) 24).toInt) (q4 : x4.toInt = (h.2.1 (.inl 105) 24).toInt) (qv : v.toInt = (h.2.1 (.inl 105) 24).toInt + 1) (qu : (h.2.1 (.inl 105) 25).toInt ≤ 0) (qd : (h.2.1 (.inl 105) 24).toInt < 40)
    (c1 : (h.2.1 (.inl 123) x1.toNatClampNeg).toInt = 3 ∨ (h.2.1 (.inl 123) x1.toNatClampNeg).toInt = 4 ∨ (h.2.1 (.inl 124) x2.toNatClampNeg).toInt < 78) (c2 : ¬ (h.2.1 (.inl 123) x1.toNatClampNeg).toInt = 4 ∧ ¬ (h.2.1 (.inl 123) x1.toNatClampNeg).toInt = 5 ∨ 1 ≤ (h.2.1 (.inl 125) x3.toNatClampNeg).toInt ∧ 1 ≤ (h.2.1 (.inl 126) x4.toNatClampNeg).toInt) : sf_J (mx_uI h (.inl 105) 24 v) := by
  have z1 := (sf_rd (r := 248) (lo := 0) (hi := 40) hI (.inl 105) 24 rfl rfl).1
  have z2 := (sf_rd (r := 249) (lo := 0) (hi := 40) hI (.inl 105) 25 rfl rfl).1
  have e2 : x2 = x1 := Int32.toInt_inj.mp (q2.trans q1.symm)
  have e3 : x3 = x1 := Int32.toInt_inj.mp (q3.trans q1.symm)
  have e4 : x4 = x1 := Int32.toInt_inj.mp (q4.trans q1.symm)
  rw [e2] at c1
  rw [e3, e4] at c2
  have hx := sf_cl (x := x1) (by omega)
  have o : ∀ n i, ¬ (n = 105 ∧ i = 24) → sf_jf (mx_uI h (.inl 105) 24 v) (.inl n) i = sf_jf h (.inl n) i := fun n i hn => sf_JRo _ _ hn
  refine sf_Jk1 (h := h) (fun n i hn => o n i (by omega)) (fun q i => sf_jf_o (fun q => by cases q.1)) rfl rfl hI.2.2 ?_
  have k1 := hI.2.2.2.1
  unfold sf_K1 at *
  rw [sf_10 (Or.inl rfl), sf_10 (Or.inr rfl)] at *
  rw [show (mx_uI h (.inl 105) 24 v).2.1 (.inl 105) 24 = v from rfl, show (mx_uI h (.inl 105) 24 v).2.1 (.inl 105) 25 = h.2.1 (.inl 105) 25 from rfl]
  refine ⟨by omega, fun k hk => ?_⟩
  rw [o _ _ (by omega), o _ _ (by omega), o _ _ (by omega), o _ _ (by omega)]
  by_cases e : k = x1.toNatClampNeg
  · subst e
    rw [sf_jfr (a := .inl 123) (r := 335) rfl rfl, sf_jfr (a := .inl 124) (r := 336) rfl rfl, sf_jfr (a := .inl 125) (r := 337) rfl rfl, sf_jfr (a := .inl 126) (r := 338) rfl rfl]
    omega
  · exact k1.2 k (by omega)
/-- a corner stays heavy -/
theorem sf_K2w {h : mx_H} {i : Nat} {v : Int32} (hJ : sf_J h) (hv : 1 ≤ v.toInt) : sf_J (mx_uI h (.inl 107) i v) := by
  have o : ∀ n i', ¬ (n = 107 ∧ i' = i) → sf_jf (mx_uI h (.inl 107) i v) (.inl n) i' = sf_jf h (.inl n) i' := fun n i' hn => sf_JRo _ _ hn
  obtain ⟨hC, k1, k2, k3, k4, k5⟩ := hJ
  refine sf_JwR (by decide +kernel) ⟨hC, k1, k2, k3, k4, k5⟩ ⟨?_, ?_, ?_, ?_, ?_⟩
  · unfold sf_K1 at *
    simp only [o 105 _ (by simp), o 123 _ (by simp), o 124 _ (by simp), o 125 _ (by simp), o 126 _ (by simp)]
    exact k1
  · intro s c q1 q2
    rw [o _ _ (by omega)] at q1 q2
    by_cases e : 6 * s + c = i
    · rw [sf_jfr (r := 319) rfl rfl, e, sf_rs]
      exact hv
    · rw [o _ _ (by omega)]
      exact k2 s c q1 q2
  · unfold sf_K3 at *
    simp only [o 105 _ (by simp), o 113 _ (by simp), o 111 _ (by simp)]
    exact k3
  · unfold sf_K4 at *
    simp only [o 105 _ (by simp), o 113 _ (by simp)]
    exact k4
  · unfold sf_K5 at *
    simp only [o 105 _ (by simp), o 106 _ (by simp), o 113 _ (by simp), o 117 _ (by simp)]
    exact k5
theorem sf_k2x {h : mx_H} {x s c : Int32} (hI : sf_I h) (s0 : 0 ≤ s.toInt) (hs : s.toInt < (h.2.1 (.inl 105) 1).toInt) (c0 : 0 ≤ c.toInt) (hc : c.toInt < (h.2.1 (.inl 106) s.toNatClampNeg).toInt) (hx : x.toInt = 6 * s.toInt + c.toInt) : 1 ≤ (h.2.1 (.inl 107) x.toNatClampNeg).toInt := by
  have k2 := hI.2.2.2.2.1 s.toNatClampNeg c.toNatClampNeg (by rw [sf_jfr (r := 225) rfl rfl, sf_cl s0]; exact hs) (by rw [sf_jfr (r := 318) rfl rfl, sf_cl c0]; exact hc)
  rw [sf_jfr (r := 319) rfl rfl] at k2
  have e : x.toNatClampNeg = 6 * s.toNatClampNeg + c.toNatClampNeg := by
    have e1 := sf_cl s0
    have e2 := sf_cl c0
    have e3 := sf_cl (x := x) (by omega)
    omega
  rw [e]
  exact k2
theorem sf_k3x {h : mx_H} {x : Int32} (hI : sf_I h) (x0 : 0 ≤ x.toInt) : 36 * (h.2.1 (.inl 105) 1).toInt ≤ x.toInt ∨ (h.2.1 (.inl 113) x.toNatClampNeg).toInt ≤ 0 ∨ 1 ≤ (h.2.1 (.inl 111) x.toNatClampNeg).toInt := by
  have k3 := hI.2.2.2.2.2.1 x.toNatClampNeg
  rw [sf_r1, sf_r2, sf_jfr (r := 225) rfl rfl, sf_cl x0] at k3
  omega
/-! ===== class: references to shapes, and the history ===== -/
theorem sf_uR {h : mx_H} {n i : Nat} {v : Option mx_A} (hI : sf_I h) (hn : n = 85 ∨ n = 92) (hv : ∀ b, v = some b → ∃ j, b = .inr (j, 0)) : sf_I (mx_uR h (.inl n) i v) := by
  refine ⟨hI.1, fun a k b hs hb => ?_, ⟨⟨hI.2.2.1.1, hI.2.2.1.2.1, hI.2.2.1.2.2.1, ?_⟩, hI.2.2.2⟩⟩
  · by_cases q : a = .inl n ∧ k = i
    · exact hv b ((show (mx_uR h (.inl n) i v).2.2.2 a k = v from if_pos q).symm.trans hb)
    · exact hI.2.1 a k b hs ((show (mx_uR h (.inl n) i v).2.2.2 a k = h.2.2.2 a k from if_neg q).symm.trans hb)
  · obtain ⟨m, h1, h2, h3, h4⟩ := hI.2.2.1.2.2.2
    refine ⟨m, ?_, h2, h3, fun k j hk => h4 k j ?_⟩
    · exact (if_neg (fun q => by have := Sum.inl.inj q.1; omega)).trans h1
    · exact (show (mx_uR h (.inl n) i v).2.2.2 (.inl 3) k = h.2.2.2 (.inl 3) k from if_neg (fun q => by have := Sum.inl.inj q.1; omega)).symm.trans hk
theorem sf_ER {m : Nat} {h h' : mx_H} {a : mx_A} {i r : Nat} {v : Option mx_A} (e : sf_rr a = r) (hb : m.testBit r = true) (hE : sf_E m h h') : sf_E m h (mx_uR h' a i v) := by
  subst e
  refine ⟨hE.1, fun b j hf => ?_, hE.2.2⟩
  have q : ¬ (b = a ∧ j = i) := fun q => by
    rw [q.1, hb] at hf
    cases hf
  exact (if_neg q).trans (hE.2.1 b j hf)
theorem sf_vs {j : Nat} : ∀ b, (some (.inr (j, 0)) : Option mx_A) = some b → ∃ j, b = .inr (j, 0) := fun b e => ⟨j, (Option.some.inj e).symm⟩
theorem sf_vn : ∀ b, (none : Option mx_A) = some b → ∃ j, b = .inr (j, 0) := fun b e => nomatch e
theorem sf_Jg3 {h h' : mx_H} (o : ∀ n i, n ≠ 84 ∧ n ≠ 86 ∧ n ≠ 87 → sf_jf h' (.inl n) i = sf_jf h (.inl n) i) (o2 : ∀ q i, sf_jf h' (.inr q) i = sf_jf h (.inr q) i) (eR : h'.2.2.2 = h.2.2.2) (en : h'.1 = h.1) (hJ : sf_J h) (h3 : sf_J3 (sf_jf h')) : sf_J h' := by
  unfold sf_J
  rw [eR, en]
  exact ⟨⟨sf_J1_c (fun j q i _ => o2 (j, q) i) hJ.1.1, sf_J2_c (o _ _ (by decide +kernel)) (fun j => o _ j (by decide +kernel)) (fun j => o _ j (by decide +kernel)) hJ.1.2.1, h3, sf_J4_c (o _ _ (by decide +kernel)) hJ.1.2.2.2⟩, sf_JR_c (fun k j hk => o k j (by omega)) hJ.2⟩
theorem sf_84 {h : mx_H} {i : Nat} (hi : i = 0 ∨ i = 1) : sf_jf h (.inl 84) i = (h.2.1 (.inl 84) i).toInt := by
  rcases hi with rfl | rfl
  · exact sf_jfr (r := 190) rfl rfl
  · exact sf_jfr (r := 191) rfl rfl
theorem sf_J3s {h : mx_H} {u v : Int32} (hJ : sf_J h) (hs : u.toInt + v.toInt ≤ (h.2.1 (.inl 84) 0).toInt + (h.2.1 (.inl 84) 1).toInt) : sf_J (mx_uI (mx_uI h (.inl 84) 0 u) (.inl 84) 1 v) := by
  have o : ∀ n i, n ≠ 84 → sf_jf (mx_uI (mx_uI h (.inl 84) 0 u) (.inl 84) 1 v) (.inl n) i = sf_jf h (.inl n) i := fun n i hn => (sf_jf_o (fun q => hn (Sum.inl.inj q.1))).trans (sf_jf_o (fun q => hn (Sum.inl.inj q.1)))
  refine sf_Jg3 (h := h) (fun n i hn => o n i hn.1) (fun q i => (sf_jf_o (fun q => by cases q.1)).trans (sf_jf_o (fun q => by cases q.1))) rfl rfl hJ ?_
  have h3 := hJ.1.2.2.1
  unfold sf_J3 at *
  rw [sf_84 (Or.inl rfl), sf_84 (Or.inr rfl)] at *
  rw [show (mx_uI (mx_uI h (.inl 84) 0 u) (.inl 84) 1 v).2.1 (.inl 84) 0 = u from rfl, show (mx_uI (mx_uI h (.inl 84) 0 u) (.inl 84) 1 v).2.1 (.inl 84) 1 = v from rfl]
  refine ⟨by omega, fun k hk => ?_⟩
  rw [o _ _ (by decide +kernel), o _ _ (by decide +kernel)]
  exact h3.2 k (by omega)
theorem sf_J3d {h : mx_H} {u : Int32} (hJ : sf_J h) (hs : u.toInt ≤ (h.2.1 (.inl 84) 0).toInt) : sf_J (mx_uI h (.inl 84) 0 u) := by
  have o : ∀ n i, n ≠ 84 → sf_jf (mx_uI h (.inl 84) 0 u) (.inl n) i = sf_jf h (.inl n) i := fun n i hn => sf_jf_o (fun q => hn (Sum.inl.inj q.1))
  refine sf_Jg3 (h := h) (fun n i hn => o n i hn.1) (fun q i => sf_jf_o (fun q => by cases q.1)) rfl rfl hJ ?_
  have h3 := hJ.1.2.2.1
  unfold sf_J3 at *
  rw [sf_84 (Or.inl rfl), sf_84 (Or.inr rfl)] at *
  rw [show (mx_uI h (.inl 84) 0 u).2.1 (.inl 84) 0 = u from rfl, show (mx_uI h (.inl 84) 0 u).2.1 (.inl 84) 1 = h.2.1 (.inl 84) 1 from rfl]
  refine ⟨by omega, fun k hk => ?_⟩
  rw [o _ _ (by decide +kernel), o _ _ (by decide +kernel)]
  exact h3.2 k (by omega)
/-- an act of one place laid into another -/
theorem sf_J3w {h : mx_H} {i : Nat} {u v : Int32} (hJ : sf_J h) (hp : u.toInt ≤ 3 → v.toInt ≤ 5) : sf_J (mx_uI (mx_uI h (.inl 86) i u) (.inl 87) i v) := by
  have o : ∀ n k, n ≠ 86 ∧ n ≠ 87 ∨ k ≠ i → sf_jf (mx_uI (mx_uI h (.inl 86) i u) (.inl 87) i v) (.inl n) k = sf_jf h (.inl n) k := fun n k hn => (sf_jf_o (fun q => by have := Sum.inl.inj q.1; have := q.2; omega)).trans (sf_jf_o (fun q => by have := Sum.inl.inj q.1; have := q.2; omega))
  refine sf_Jg3 (h := h) (fun n i hn => o n i (by omega)) (fun q i => (sf_jf_o (fun q => by cases q.1)).trans (sf_jf_o (fun q => by cases q.1))) rfl rfl hJ ?_
  have h3 := hJ.1.2.2.1
  refine ⟨?_, fun k hk q => ?_⟩
  · rw [o _ _ (by omega), o _ _ (by omega)]
    exact h3.1
  · rw [o 84 _ (by omega), o 84 _ (by omega)] at hk
    by_cases e : k = i
    · subst e
      rw [sf_jfr (r := 198) rfl rfl, sf_ro (by decide +kernel), sf_rs] at q
      rw [sf_jfr (r := 199) rfl rfl, sf_rs]
      exact hp q
    · rw [o _ _ (Or.inr e)] at q ⊢
      exact h3.2 k hk q
theorem sf_j3x {h : mx_H} {k : Int32} (hI : sf_I h) (h0 : 0 ≤ k.toInt) (hk : k.toInt < (h.2.1 (.inl 84) 0).toInt + (h.2.1 (.inl 84) 1).toInt) : 4 ≤ (h.2.1 (.inl 86) k.toNatClampNeg).toInt ∨ (h.2.1 (.inl 87) k.toNatClampNeg).toInt ≤ 5 := by
  have h3 := hI.2.2.1.2.2.1.2 k.toNatClampNeg (by rw [sf_84 (Or.inl rfl), sf_84 (Or.inr rfl), sf_cl h0]; exact hk)
  rw [sf_jfr (r := 198) rfl rfl, sf_jfr (r := 199) rfl rfl] at h3
  by_cases q : (h.2.1 (.inl 86) k.toNatClampNeg).toInt ≤ 3
  · exact Or.inr (h3 q)
  · exact Or.inl (by omega)
theorem sf_J3mv {h : mx_H} {x y : Int32} (hI : sf_I h) (h0 : 0 ≤ y.toInt) (hy : y.toInt < (h.2.1 (.inl 84) 0).toInt + (h.2.1 (.inl 84) 1).toInt) : sf_J (mx_uI (mx_uI h (.inl 86) x.toNatClampNeg (h.2.1 (.inl 86) y.toNatClampNeg)) (.inl 87) x.toNatClampNeg (h.2.1 (.inl 87) y.toNatClampNeg)) :=
  sf_J3w hI.2.2 (fun q => by have := sf_j3x hI h0 hy; omega)
theorem sf_j3s {h : mx_H} (hI : sf_I h) : (h.2.1 (.inl 84) 0).toInt + (h.2.1 (.inl 84) 1).toInt ≤ 40 := by
  have h3 := hI.2.2.1.2.2.1.1
  rw [sf_84 (Or.inl rfl), sf_84 (Or.inr rfl)] at h3
  exact h3
/-! ===== methods that end and keep their bounds: written by program, checked by Lean ===== -/
set_option maxRecDepth 10000 in
theorem sf18_2 {E : mx_Ev} {d : Nat} {Q : Option mx_V → mx_H → Prop} {h0 : mx_H} (hQ : ∀ h', sf_I h' → sf_E 173291855882550928723650886508942731464777317210988535948154973788419859324793006500201873698302358792763012971903269828451893248 h0 h' → ((h').2.1 (.inl 84) 0 : Int32).toInt ≤ 39 → Q none h') : ∀ (n : Nat) {a1 : Int32} {h : mx_H}, (2147483647 - a1.toInt).toNat < n → sf_iv 1 40 a1 → 40 ≤ (h.2.1 (.inl 84) 0 : Int32).toInt → sf_I h → sf_E 173291855882550928723650886508942731464777317210988535948154973788419859324793006500201873698302358792763012971903269828451893248 h0 h → mx_T E (mx_fn true) d 0 0 18 2 [(0, .inr (.inl 84)), (1, .inl (.int a1))] [] h Q
  | 0, _, _, hm, _, _, _, _ => absurd hm (Nat.not_lt_zero _)
  | n + 1, a1, h, hm, pa1, r0, hI, hE => sg18_2 ⟨fun g1338 => hQ _ (sf_uJ (r := 190) hI rfl ivk_39 (by decide +kernel) (sf_J3d hI.2.2 (show (39 : Int32).toInt ≤ (h.2.1 (.inl 84) 0 : Int32).toInt from (by have ⟨b1340, b1340_⟩ := (show sf_iv 40 40 a1 from (iv_w (c := 40) (d := 40) (iv_ler g1338 ivk_40 pa1) (by decide +kernel))); have ⟨b1341, b1341_⟩ := (show sf_iv 0 40 (h.2.1 (.inl 84) 0) from (srd_190_84_0 hI)); have f1342 := r0; have f1343 := li_le g1338 ivt_40 (show (a1 : Int32).toInt = (a1).toInt from rfl); have e1339 := ivt_39; omega)))) (sf_Eu (r := 190) rfl (by decide +kernel) hE) (show ((mx_uI h (.inl 84) 0 39).2.1 (.inl 84) 0 : Int32).toInt ≤ 39 from (by have ⟨b1345, b1345_⟩ := (show sf_iv 40 40 a1 from (iv_w (c := 40) (d := 40) (iv_ler g1338 ivk_40 pa1) (by decide +kernel))); have ⟨b1346, b1346_⟩ := (show sf_iv 0 40 (h.2.1 (.inl 84) 0) from (srd_190_84_0 hI)); have f1347 := r0; have f1348 := li_le g1338 ivt_40 (show (a1 : Int32).toInt = (a1).toInt from rfl); have e1344 := (show ((mx_uI h (.inl 84) 0 39).2.1 (.inl 84) 0 : Int32).toInt = 39 from (li_s rfl)); omega)), fun g1349 => ⟨(iv_in (iv_w (c := 1) (d := 39) (iv_ltl (Int32.not_le.mp g1349) pa1 ivk_40) (by decide +kernel)) (by decide +kernel)), fun j1350 q1351 => ⟨(iv_in (iv_sub (lo := 0) (hi := 38) (iv_w (c := 1) (d := 39) (iv_ltl (Int32.not_le.mp g1349) pa1 ivk_40) (by decide +kernel)) ivk_1 (by decide +kernel)) (by decide +kernel)), rfl, ⟨(iv_in (iv_w (c := 1) (d := 39) (iv_ltl (Int32.not_le.mp g1349) pa1 ivk_40) (by decide +kernel)) (by decide +kernel)), ⟨(iv_in (iv_sub (lo := 0) (hi := 38) (iv_w (c := 1) (d := 39) (iv_ltl (Int32.not_le.mp g1349) pa1 ivk_40) (by decide +kernel)) ivk_1 (by decide +kernel)) (by decide +kernel)), ⟨(iv_in (iv_w (c := 1) (d := 39) (iv_ltl (Int32.not_le.mp g1349) pa1 ivk_40) (by decide +kernel)) (by decide +kernel)), ⟨(iv_in (iv_sub (lo := 0) (hi := 38) (iv_w (c := 1) (d := 39) (iv_ltl (Int32.not_le.mp g1349) pa1 ivk_40) (by decide +kernel)) ivk_1 (by decide +kernel)) (by decide +kernel)), ⟨(iv_in (iv_w (c := 1) (d := 39) (iv_ltl (Int32.not_le.mp g1349) pa1 ivk_40) (by decide +kernel)) (by decide +kernel)), ⟨(iv_in (iv_sub (lo := 0) (hi := 38) (iv_w (c := 1) (d := 39) (iv_ltl (Int32.not_le.mp g1349) pa1 ivk_40) (by decide +kernel)) ivk_1 (by decide +kernel)) (by decide +kernel)), ⟨(iv_in (iv_w (c := 1) (d := 39) (iv_ltl (Int32.not_le.mp g1349) pa1 ivk_40) (by decide +kernel)) (by decide +kernel)), ⟨(iv_in (iv_sub (lo := 0) (hi := 38) (iv_w (c := 1) (d := 39) (iv_ltl (Int32.not_le.mp g1349) pa1 ivk_40) (by decide +kernel)) ivk_1 (by decide +kernel)) (by decide +kernel)), sf18_2 hQ  n (iv_up hm (iv_w (c := 1) (d := 39) (iv_ltl (Int32.not_le.mp g1349) pa1 ivk_40) (by decide +kernel)) (by decide +kernel))  (iv_w (c := 1) (d := 40) (iv_add (lo := 2) (hi := 40) (iv_w (c := 1) (d := 39) (iv_ltl (Int32.not_le.mp g1349) pa1 ivk_40) (by decide +kernel)) ivk_1 (by decide +kernel)) (by decide +kernel)) (show 40 ≤ ((mx_uI (mx_uI (mx_uI (mx_uI h (.inl 86) (Int32.toNatClampNeg (a1 - 1)) (h.2.1 (.inl 86) (Int32.toNatClampNeg a1))) (.inl 87) (Int32.toNatClampNeg (a1 - 1)) ((mx_uI h (.inl 86) (Int32.toNatClampNeg (a1 - 1)) (h.2.1 (.inl 86) (Int32.toNatClampNeg a1))).2.1 (.inl 87) (Int32.toNatClampNeg a1))) (.inl 88) (Int32.toNatClampNeg (a1 - 1)) ((mx_uI (mx_uI h (.inl 86) (Int32.toNatClampNeg (a1 - 1)) (h.2.1 (.inl 86) (Int32.toNatClampNeg a1))) (.inl 87) (Int32.toNatClampNeg (a1 - 1)) ((mx_uI h (.inl 86) (Int32.toNatClampNeg (a1 - 1)) (h.2.1 (.inl 86) (Int32.toNatClampNeg a1))).2.1 (.inl 87) (Int32.toNatClampNeg a1))).2.1 (.inl 88) (Int32.toNatClampNeg a1))) (.inl 89) (Int32.toNatClampNeg (a1 - 1)) ((mx_uI (mx_uI (mx_uI h (.inl 86) (Int32.toNatClampNeg (a1 - 1)) (h.2.1 (.inl 86) (Int32.toNatClampNeg a1))) (.inl 87) (Int32.toNatClampNeg (a1 - 1)) ((mx_uI h (.inl 86) (Int32.toNatClampNeg (a1 - 1)) (h.2.1 (.inl 86) (Int32.toNatClampNeg a1))).2.1 (.inl 87) (Int32.toNatClampNeg a1))) (.inl 88) (Int32.toNatClampNeg (a1 - 1)) ((mx_uI (mx_uI h (.inl 86) (Int32.toNatClampNeg (a1 - 1)) (h.2.1 (.inl 86) (Int32.toNatClampNeg a1))) (.inl 87) (Int32.toNatClampNeg (a1 - 1)) ((mx_uI h (.inl 86) (Int32.toNatClampNeg (a1 - 1)) (h.2.1 (.inl 86) (Int32.toNatClampNeg a1))).2.1 (.inl 87) (Int32.toNatClampNeg a1))).2.1 (.inl 88) (Int32.toNatClampNeg a1))).2.1 (.inl 89) (Int32.toNatClampNeg a1))).2.1 (.inl 84) 0 : Int32).toInt from (by have ⟨b1376, b1376_⟩ := (show sf_iv 1 39 a1 from (iv_w (c := 1) (d := 39) (iv_ltl (Int32.not_le.mp g1349) pa1 ivk_40) (by decide +kernel))); have ⟨b1377, b1377_⟩ := (show sf_iv 0 40 (h.2.1 (.inl 84) 0) from (srd_190_84_0 hI)); have f1378 := r0; have f1379 := li_lt (Int32.not_le.mp g1349) (show (a1 : Int32).toInt = (a1).toInt from rfl) ivt_40; have e1375 := (show ((mx_uI (mx_uI (mx_uI (mx_uI h (.inl 86) (Int32.toNatClampNeg (a1 - 1)) (h.2.1 (.inl 86) (Int32.toNatClampNeg a1))) (.inl 87) (Int32.toNatClampNeg (a1 - 1)) ((mx_uI h (.inl 86) (Int32.toNatClampNeg (a1 - 1)) (h.2.1 (.inl 86) (Int32.toNatClampNeg a1))).2.1 (.inl 87) (Int32.toNatClampNeg a1))) (.inl 88) (Int32.toNatClampNeg (a1 - 1)) ((mx_uI (mx_uI h (.inl 86) (Int32.toNatClampNeg (a1 - 1)) (h.2.1 (.inl 86) (Int32.toNatClampNeg a1))) (.inl 87) (Int32.toNatClampNeg (a1 - 1)) ((mx_uI h (.inl 86) (Int32.toNatClampNeg (a1 - 1)) (h.2.1 (.inl 86) (Int32.toNatClampNeg a1))).2.1 (.inl 87) (Int32.toNatClampNeg a1))).2.1 (.inl 88) (Int32.toNatClampNeg a1))) (.inl 89) (Int32.toNatClampNeg (a1 - 1)) ((mx_uI (mx_uI (mx_uI h (.inl 86) (Int32.toNatClampNeg (a1 - 1)) (h.2.1 (.inl 86) (Int32.toNatClampNeg a1))) (.inl 87) (Int32.toNatClampNeg (a1 - 1)) ((mx_uI h (.inl 86) (Int32.toNatClampNeg (a1 - 1)) (h.2.1 (.inl 86) (Int32.toNatClampNeg a1))).2.1 (.inl 87) (Int32.toNatClampNeg a1))) (.inl 88) (Int32.toNatClampNeg (a1 - 1)) ((mx_uI (mx_uI h (.inl 86) (Int32.toNatClampNeg (a1 - 1)) (h.2.1 (.inl 86) (Int32.toNatClampNeg a1))) (.inl 87) (Int32.toNatClampNeg (a1 - 1)) ((mx_uI h (.inl 86) (Int32.toNatClampNeg (a1 - 1)) (h.2.1 (.inl 86) (Int32.toNatClampNeg a1))).2.1 (.inl 87) (Int32.toNatClampNeg a1))).2.1 (.inl 88) (Int32.toNatClampNeg a1))).2.1 (.inl 89) (Int32.toNatClampNeg a1))).2.1 (.inl 84) 0 : Int32).toInt = (h.2.1 (.inl 84) 0).toInt from (li_o (by decide +kernel) (li_o (by decide +kernel) (li_o (by decide +kernel) (li_o (by decide +kernel) rfl))))); omega)) (sf_uI (r := 201) (sf_uI (r := 200) (sf_B.I (sf_uB (r := 199) (sf_uB (r := 198) (sf_uR (n := 85) hI (by decide +kernel) sf_vs).B rfl (srd_198_86_x hI (Int32.toNatClampNeg a1)) (by decide +kernel)) rfl (iv_o (by decide +kernel) (srd_199_87_x hI (Int32.toNatClampNeg a1))) (by decide +kernel)) (sf_J3mv (x := a1 - 1) (y := a1) (sf_uR (n := 85) hI (by decide +kernel) sf_vs) (show 0 ≤ (a1 : Int32).toInt from (by have ⟨b1366, b1366_⟩ := (show sf_iv 1 39 a1 from (iv_w (c := 1) (d := 39) (iv_ltl (Int32.not_le.mp g1349) pa1 ivk_40) (by decide +kernel))); have ⟨b1367, b1367_⟩ := (show sf_iv 0 40 (h.2.1 (.inl 84) 0) from (srd_190_84_0 hI)); have f1368 := r0; have f1369 := li_lt (Int32.not_le.mp g1349) (show (a1 : Int32).toInt = (a1).toInt from rfl) ivt_40; omega)) (show (a1 : Int32).toInt < (h.2.1 (.inl 84) 0 : Int32).toInt + (h.2.1 (.inl 84) 1 : Int32).toInt from (by have ⟨b1370, b1370_⟩ := (show sf_iv 1 39 a1 from (iv_w (c := 1) (d := 39) (iv_ltl (Int32.not_le.mp g1349) pa1 ivk_40) (by decide +kernel))); have ⟨b1371, b1371_⟩ := (show sf_iv 0 40 (h.2.1 (.inl 84) 0) from (srd_190_84_0 hI)); have ⟨b1372, b1372_⟩ := (show sf_iv 0 40 (h.2.1 (.inl 84) 1) from (srd_191_84_1 hI)); have f1373 := r0; have f1374 := li_lt (Int32.not_le.mp g1349) (show (a1 : Int32).toInt = (a1).toInt from rfl) ivt_40; omega)))) rfl (iv_o (by decide +kernel) (iv_o (by decide +kernel) (srd_200_88_x hI (Int32.toNatClampNeg a1)))) (by decide +kernel)) rfl (iv_o (by decide +kernel) (iv_o (by decide +kernel) (iv_o (by decide +kernel) (srd_201_89_x hI (Int32.toNatClampNeg a1))))) (by decide +kernel)) (sf_Eu (r := 201) rfl (by decide +kernel) (sf_Eu (r := 200) rfl (by decide +kernel) (sf_Eu (r := 199) rfl (by decide +kernel) (sf_Eu (r := 198) rfl (by decide +kernel) (sf_ER (r := 426) rfl (by decide +kernel) hE)))))⟩⟩⟩⟩⟩⟩⟩⟩⟩, fun q1351 => ⟨(iv_in (iv_sub (lo := 0) (hi := 38) (iv_w (c := 1) (d := 39) (iv_ltl (Int32.not_le.mp g1349) pa1 ivk_40) (by decide +kernel)) ivk_1 (by decide +kernel)) (by decide +kernel)), rfl, ⟨(iv_in (iv_w (c := 1) (d := 39) (iv_ltl (Int32.not_le.mp g1349) pa1 ivk_40) (by decide +kernel)) (by decide +kernel)), ⟨(iv_in (iv_sub (lo := 0) (hi := 38) (iv_w (c := 1) (d := 39) (iv_ltl (Int32.not_le.mp g1349) pa1 ivk_40) (by decide +kernel)) ivk_1 (by decide +kernel)) (by decide +kernel)), ⟨(iv_in (iv_w (c := 1) (d := 39) (iv_ltl (Int32.not_le.mp g1349) pa1 ivk_40) (by decide +kernel)) (by decide +kernel)), ⟨(iv_in (iv_sub (lo := 0) (hi := 38) (iv_w (c := 1) (d := 39) (iv_ltl (Int32.not_le.mp g1349) pa1 ivk_40) (by decide +kernel)) ivk_1 (by decide +kernel)) (by decide +kernel)), ⟨(iv_in (iv_w (c := 1) (d := 39) (iv_ltl (Int32.not_le.mp g1349) pa1 ivk_40) (by decide +kernel)) (by decide +kernel)), ⟨(iv_in (iv_sub (lo := 0) (hi := 38) (iv_w (c := 1) (d := 39) (iv_ltl (Int32.not_le.mp g1349) pa1 ivk_40) (by decide +kernel)) ivk_1 (by decide +kernel)) (by decide +kernel)), ⟨(iv_in (iv_w (c := 1) (d := 39) (iv_ltl (Int32.not_le.mp g1349) pa1 ivk_40) (by decide +kernel)) (by decide +kernel)), ⟨(iv_in (iv_sub (lo := 0) (hi := 38) (iv_w (c := 1) (d := 39) (iv_ltl (Int32.not_le.mp g1349) pa1 ivk_40) (by decide +kernel)) ivk_1 (by decide +kernel)) (by decide +kernel)), sf18_2 hQ  n (iv_up hm (iv_w (c := 1) (d := 39) (iv_ltl (Int32.not_le.mp g1349) pa1 ivk_40) (by decide +kernel)) (by decide +kernel))  (iv_w (c := 1) (d := 40) (iv_add (lo := 2) (hi := 40) (iv_w (c := 1) (d := 39) (iv_ltl (Int32.not_le.mp g1349) pa1 ivk_40) (by decide +kernel)) ivk_1 (by decide +kernel)) (by decide +kernel)) (show 40 ≤ ((mx_uI (mx_uI (mx_uI (mx_uI h (.inl 86) (Int32.toNatClampNeg (a1 - 1)) (h.2.1 (.inl 86) (Int32.toNatClampNeg a1))) (.inl 87) (Int32.toNatClampNeg (a1 - 1)) ((mx_uI h (.inl 86) (Int32.toNatClampNeg (a1 - 1)) (h.2.1 (.inl 86) (Int32.toNatClampNeg a1))).2.1 (.inl 87) (Int32.toNatClampNeg a1))) (.inl 88) (Int32.toNatClampNeg (a1 - 1)) ((mx_uI (mx_uI h (.inl 86) (Int32.toNatClampNeg (a1 - 1)) (h.2.1 (.inl 86) (Int32.toNatClampNeg a1))) (.inl 87) (Int32.toNatClampNeg (a1 - 1)) ((mx_uI h (.inl 86) (Int32.toNatClampNeg (a1 - 1)) (h.2.1 (.inl 86) (Int32.toNatClampNeg a1))).2.1 (.inl 87) (Int32.toNatClampNeg a1))).2.1 (.inl 88) (Int32.toNatClampNeg a1))) (.inl 89) (Int32.toNatClampNeg (a1 - 1)) ((mx_uI (mx_uI (mx_uI h (.inl 86) (Int32.toNatClampNeg (a1 - 1)) (h.2.1 (.inl 86) (Int32.toNatClampNeg a1))) (.inl 87) (Int32.toNatClampNeg (a1 - 1)) ((mx_uI h (.inl 86) (Int32.toNatClampNeg (a1 - 1)) (h.2.1 (.inl 86) (Int32.toNatClampNeg a1))).2.1 (.inl 87) (Int32.toNatClampNeg a1))) (.inl 88) (Int32.toNatClampNeg (a1 - 1)) ((mx_uI (mx_uI h (.inl 86) (Int32.toNatClampNeg (a1 - 1)) (h.2.1 (.inl 86) (Int32.toNatClampNeg a1))) (.inl 87) (Int32.toNatClampNeg (a1 - 1)) ((mx_uI h (.inl 86) (Int32.toNatClampNeg (a1 - 1)) (h.2.1 (.inl 86) (Int32.toNatClampNeg a1))).2.1 (.inl 87) (Int32.toNatClampNeg a1))).2.1 (.inl 88) (Int32.toNatClampNeg a1))).2.1 (.inl 89) (Int32.toNatClampNeg a1))).2.1 (.inl 84) 0 : Int32).toInt from (by have ⟨b1362, b1362_⟩ := (show sf_iv 1 39 a1 from (iv_w (c := 1) (d := 39) (iv_ltl (Int32.not_le.mp g1349) pa1 ivk_40) (by decide +kernel))); have ⟨b1363, b1363_⟩ := (show sf_iv 0 40 (h.2.1 (.inl 84) 0) from (srd_190_84_0 hI)); have f1364 := r0; have f1365 := li_lt (Int32.not_le.mp g1349) (show (a1 : Int32).toInt = (a1).toInt from rfl) ivt_40; have e1361 := (show ((mx_uI (mx_uI (mx_uI (mx_uI h (.inl 86) (Int32.toNatClampNeg (a1 - 1)) (h.2.1 (.inl 86) (Int32.toNatClampNeg a1))) (.inl 87) (Int32.toNatClampNeg (a1 - 1)) ((mx_uI h (.inl 86) (Int32.toNatClampNeg (a1 - 1)) (h.2.1 (.inl 86) (Int32.toNatClampNeg a1))).2.1 (.inl 87) (Int32.toNatClampNeg a1))) (.inl 88) (Int32.toNatClampNeg (a1 - 1)) ((mx_uI (mx_uI h (.inl 86) (Int32.toNatClampNeg (a1 - 1)) (h.2.1 (.inl 86) (Int32.toNatClampNeg a1))) (.inl 87) (Int32.toNatClampNeg (a1 - 1)) ((mx_uI h (.inl 86) (Int32.toNatClampNeg (a1 - 1)) (h.2.1 (.inl 86) (Int32.toNatClampNeg a1))).2.1 (.inl 87) (Int32.toNatClampNeg a1))).2.1 (.inl 88) (Int32.toNatClampNeg a1))) (.inl 89) (Int32.toNatClampNeg (a1 - 1)) ((mx_uI (mx_uI (mx_uI h (.inl 86) (Int32.toNatClampNeg (a1 - 1)) (h.2.1 (.inl 86) (Int32.toNatClampNeg a1))) (.inl 87) (Int32.toNatClampNeg (a1 - 1)) ((mx_uI h (.inl 86) (Int32.toNatClampNeg (a1 - 1)) (h.2.1 (.inl 86) (Int32.toNatClampNeg a1))).2.1 (.inl 87) (Int32.toNatClampNeg a1))) (.inl 88) (Int32.toNatClampNeg (a1 - 1)) ((mx_uI (mx_uI h (.inl 86) (Int32.toNatClampNeg (a1 - 1)) (h.2.1 (.inl 86) (Int32.toNatClampNeg a1))) (.inl 87) (Int32.toNatClampNeg (a1 - 1)) ((mx_uI h (.inl 86) (Int32.toNatClampNeg (a1 - 1)) (h.2.1 (.inl 86) (Int32.toNatClampNeg a1))).2.1 (.inl 87) (Int32.toNatClampNeg a1))).2.1 (.inl 88) (Int32.toNatClampNeg a1))).2.1 (.inl 89) (Int32.toNatClampNeg a1))).2.1 (.inl 84) 0 : Int32).toInt = (h.2.1 (.inl 84) 0).toInt from (li_o (by decide +kernel) (li_o (by decide +kernel) (li_o (by decide +kernel) (li_o (by decide +kernel) rfl))))); omega)) (sf_uI (r := 201) (sf_uI (r := 200) (sf_B.I (sf_uB (r := 199) (sf_uB (r := 198) (sf_uR (n := 85) hI (by decide +kernel) sf_vn).B rfl (srd_198_86_x hI (Int32.toNatClampNeg a1)) (by decide +kernel)) rfl (iv_o (by decide +kernel) (srd_199_87_x hI (Int32.toNatClampNeg a1))) (by decide +kernel)) (sf_J3mv (x := a1 - 1) (y := a1) (sf_uR (n := 85) hI (by decide +kernel) sf_vn) (show 0 ≤ (a1 : Int32).toInt from (by have ⟨b1352, b1352_⟩ := (show sf_iv 1 39 a1 from (iv_w (c := 1) (d := 39) (iv_ltl (Int32.not_le.mp g1349) pa1 ivk_40) (by decide +kernel))); have ⟨b1353, b1353_⟩ := (show sf_iv 0 40 (h.2.1 (.inl 84) 0) from (srd_190_84_0 hI)); have f1354 := r0; have f1355 := li_lt (Int32.not_le.mp g1349) (show (a1 : Int32).toInt = (a1).toInt from rfl) ivt_40; omega)) (show (a1 : Int32).toInt < (h.2.1 (.inl 84) 0 : Int32).toInt + (h.2.1 (.inl 84) 1 : Int32).toInt from (by have ⟨b1356, b1356_⟩ := (show sf_iv 1 39 a1 from (iv_w (c := 1) (d := 39) (iv_ltl (Int32.not_le.mp g1349) pa1 ivk_40) (by decide +kernel))); have ⟨b1357, b1357_⟩ := (show sf_iv 0 40 (h.2.1 (.inl 84) 0) from (srd_190_84_0 hI)); have ⟨b1358, b1358_⟩ := (show sf_iv 0 40 (h.2.1 (.inl 84) 1) from (srd_191_84_1 hI)); have f1359 := r0; have f1360 := li_lt (Int32.not_le.mp g1349) (show (a1 : Int32).toInt = (a1).toInt from rfl) ivt_40; omega)))) rfl (iv_o (by decide +kernel) (iv_o (by decide +kernel) (srd_200_88_x hI (Int32.toNatClampNeg a1)))) (by decide +kernel)) rfl (iv_o (by decide +kernel) (iv_o (by decide +kernel) (iv_o (by decide +kernel) (srd_201_89_x hI (Int32.toNatClampNeg a1))))) (by decide +kernel)) (sf_Eu (r := 201) rfl (by decide +kernel) (sf_Eu (r := 200) rfl (by decide +kernel) (sf_Eu (r := 199) rfl (by decide +kernel) (sf_Eu (r := 198) rfl (by decide +kernel) (sf_ER (r := 426) rfl (by decide +kernel) hE)))))⟩⟩⟩⟩⟩⟩⟩⟩⟩, sf_rt hI rfl⟩⟩
set_option maxRecDepth 10000 in
theorem sf18 {E : mx_Ev} {d : Nat} {h : mx_H} {Q : Option mx_V → mx_H → Prop}  (r0 : 40 ≤ (h.2.1 (.inl 84) 0 : Int32).toInt) (hI : sf_I h) (hQ : ∀ h', sf_I h' → sf_E 173291855882550928723650886508942731464777317210988535948154973788419859324793006500201873698302358792763012971903269828451893248 h h' → ((h').2.1 (.inl 84) 0 : Int32).toInt ≤ 39 → Q none h') : mx_C E (mx_fn true) d 18 [.inr (.inl 84)] h Q :=
  sg18_0 (sf18_2 hQ  _ (Nat.lt_succ_self _)  (iv_w (c := 1) (d := 40) ivk_1 (by decide +kernel)) (show 40 ≤ (h.2.1 (.inl 84) 0 : Int32).toInt from (by have ⟨b1380, b1380_⟩ := (show sf_iv 0 40 (h.2.1 (.inl 84) 0) from (srd_190_84_0 hI)); have f1381 := r0; omega)) hI (sf_E0 _ _))
set_option maxRecDepth 10000 in
theorem sf41 {E : mx_Ev} {d : Nat} {h : mx_H} {Q : Option mx_V → mx_H → Prop} {a1 : Int32} (pa1 : sf_iv 0 61 a1) (r0 : (h.2.1 (.inl 90) 3 : Int32).toInt ≤ 999) (hI : sf_I h) (hQ : ∀ h', sf_I h' → sf_E 874174296076890709894827378233592455772078428617839302403948544 h h' → ((h').2.1 (.inl 90) 3 : Int32).toInt ≤ (h.2.1 (.inl 90) 3 : Int32).toInt + 1 → Q none h') : mx_C E (mx_fn true) d 41 [.inr (.inl 90), .inl (.int a1)] h Q :=
  sg41_0 ⟨fun g6817 => hQ _ (sf_uI (r := 205) hI rfl (li_iv (lo := 0) (hi := 1000) (show ((h.2.1 (.inl 90) 3) + 1 : Int32).toInt = ((h.2.1 (.inl 90) 3).toInt + 1) from (li_add (iv_w (c := 24) (d := 1000) (iv_ler g6817 ivk_24 (srd_205_90_3 hI)) (by decide +kernel)) ivk_1 (by decide +kernel) rfl rfl)) (by have ⟨b6818, b6818_⟩ := (show sf_iv 24 1000 (h.2.1 (.inl 90) 3) from (iv_w (c := 24) (d := 1000) (iv_ler g6817 ivk_24 (srd_205_90_3 hI)) (by decide +kernel))); have f6819 := r0; have f6820 := li_le g6817 ivt_24 (show (h.2.1 (.inl 90) 3 : Int32).toInt = (h.2.1 (.inl 90) 3).toInt from rfl); omega)) (by decide +kernel)) (sf_Eu (r := 205) rfl (by decide +kernel) (sf_E0 _ _)) (show ((mx_uI h (.inl 90) 3 ((h.2.1 (.inl 90) 3) + 1)).2.1 (.inl 90) 3 : Int32).toInt ≤ (h.2.1 (.inl 90) 3 : Int32).toInt + 1 from (by have ⟨b6822, b6822_⟩ := (show sf_iv 24 1000 (h.2.1 (.inl 90) 3) from (iv_w (c := 24) (d := 1000) (iv_ler g6817 ivk_24 (srd_205_90_3 hI)) (by decide +kernel))); have f6823 := r0; have f6824 := li_le g6817 ivt_24 (show (h.2.1 (.inl 90) 3 : Int32).toInt = (h.2.1 (.inl 90) 3).toInt from rfl); have e6821 := (show ((mx_uI h (.inl 90) 3 ((h.2.1 (.inl 90) 3) + 1)).2.1 (.inl 90) 3 : Int32).toInt = ((h.2.1 (.inl 90) 3).toInt + 1) from (li_s (li_add (iv_w (c := 24) (d := 1000) (iv_ler g6817 ivk_24 (srd_205_90_3 hI)) (by decide +kernel)) ivk_1 (by decide +kernel) rfl rfl))); omega)), fun g6825 => ⟨(iv_in (iv_w (c := 0) (d := 23) (iv_ltl (Int32.not_le.mp g6825) (srd_205_90_3 hI) ivk_24) (by decide +kernel)) (by decide +kernel)), hQ _ (sf_uI (r := 205) (sf_uI (r := 209) hI rfl pa1 (by decide +kernel)) rfl (iv_add (lo := 1) (hi := 24) (iv_o (by decide +kernel) (iv_w (c := 0) (d := 23) (iv_ltl (Int32.not_le.mp g6825) (srd_205_90_3 hI) ivk_24) (by decide +kernel))) ivk_1 (by decide +kernel)) (by decide +kernel)) (sf_Eu (r := 205) rfl (by decide +kernel) (sf_Eu (r := 209) rfl (by decide +kernel) (sf_E0 _ _))) (show ((mx_uI (mx_uI h (.inl 93) (Int32.toNatClampNeg (h.2.1 (.inl 90) 3)) a1) (.inl 90) 3 (((mx_uI h (.inl 93) (Int32.toNatClampNeg (h.2.1 (.inl 90) 3)) a1).2.1 (.inl 90) 3) + 1)).2.1 (.inl 90) 3 : Int32).toInt ≤ (h.2.1 (.inl 90) 3 : Int32).toInt + 1 from (by have ⟨b6827, b6827_⟩ := (show sf_iv 0 23 (h.2.1 (.inl 90) 3) from (iv_w (c := 0) (d := 23) (iv_ltl (Int32.not_le.mp g6825) (srd_205_90_3 hI) ivk_24) (by decide +kernel))); have f6828 := r0; have f6829 := li_lt (Int32.not_le.mp g6825) (show (h.2.1 (.inl 90) 3 : Int32).toInt = (h.2.1 (.inl 90) 3).toInt from rfl) ivt_24; have e6826 := (show ((mx_uI (mx_uI h (.inl 93) (Int32.toNatClampNeg (h.2.1 (.inl 90) 3)) a1) (.inl 90) 3 (((mx_uI h (.inl 93) (Int32.toNatClampNeg (h.2.1 (.inl 90) 3)) a1).2.1 (.inl 90) 3) + 1)).2.1 (.inl 90) 3 : Int32).toInt = ((h.2.1 (.inl 90) 3).toInt + 1) from (li_s (li_add (iv_o (by decide +kernel) (iv_w (c := 0) (d := 23) (iv_ltl (Int32.not_le.mp g6825) (srd_205_90_3 hI) ivk_24) (by decide +kernel))) ivk_1 (by decide +kernel) (li_o (by decide +kernel) rfl) rfl))); omega))⟩⟩
/-! ===== class: an act is kept ===== -/
section SFA
variable {E : mx_Ev} {d : Nat} {h : mx_H} {Q : Option mx_V → mx_H → Prop}
theorem sf17k {a1 : Nat} {a2 a3 a4 a5 : Int32} (pa2 : sf_iv 0 4 a2) (pa3 : sf_iv 0 14 a3) (pa4 : sf_iv 0 99 a4) (pa5 : sf_iv 0 99 a5) (r0 : 4 ≤ a2.toInt ∨ a3.toInt ≤ 5) (hI : sf_I h) (g : (h.2.1 (.inl 84) 0) < 40) (hQ : ∀ h', sf_I h' → sf_E 173291855882550928723650886508942731464777317210988535948154973788419862463343874193542255616197070396596221023080992060469149696 h h' → Q none h') :
    vp_in (h.2.1 (.inl 84) 0) 40 ∧ mx_fn true (.inl 85) (Int32.toNatClampNeg (h.2.1 (.inl 84) 0)) = none ∧ vp_in (h.2.1 (.inl 84) 0) 40 ∧ vp_in (h.2.1 (.inl 84) 0) 40 ∧ vp_in (h.2.1 (.inl 84) 0) 40 ∧ vp_in (h.2.1 (.inl 84) 0) 40 ∧
    Q none (mx_uI (mx_uI (mx_uI (mx_uI (mx_uI (mx_uI (mx_uR h (.inl 85) (Int32.toNatClampNeg (h.2.1 (.inl 84) 0)) (some (.inr (a1, 0)))) (.inl 86) (Int32.toNatClampNeg (h.2.1 (.inl 84) 0)) a2) (.inl 87) (Int32.toNatClampNeg (h.2.1 (.inl 84) 0)) a3) (.inl 88) (Int32.toNatClampNeg (h.2.1 (.inl 84) 0)) a4) (.inl 89) (Int32.toNatClampNeg (h.2.1 (.inl 84) 0)) a5) (.inl 84) 0 (h.2.1 (.inl 84) 0 + 1)) (.inl 84) 1 0) := by
  obtain ⟨N, hN, hs⟩ := sf_of (b := 40) (sf_rd (r := 190) (lo := 0) (hi := 40) hI (.inl 84) 0 rfl rfl)
  have hN5 : N < 40 := by
    rw [hs] at g
    have := Int32.lt_iff_toInt_lt.mp g
    rw [nI_toInt (by omega), show (40 : Int32).toInt = 40 from rfl] at this
    omega
  have hv : vp_in (h.2.1 (.inl 84) 0) 40 := by
    rw [hs]
    exact vp_in_nI hN5 (by decide +kernel)
  have hc : (h.2.1 (.inl 84) 0).toNatClampNeg = N := by
    rw [hs]
    exact nI_clamp (by omega)
  refine ⟨hv, rfl, hv, hv, hv, hv, ?_⟩
  rw [hc, hs, nI_1]
  have I0 : sf_I (mx_uR h (.inl 85) N (some (.inr (a1, 0)))) := sf_uR hI (Or.inl rfl) sf_vs
  have B1 := sf_uB (a := .inl 86) (r := 198) (i := N) I0.B rfl pa2 (by decide +kernel)
  have B2 := sf_uB (a := .inl 87) (r := 199) (i := N) B1 rfl pa3 (by decide +kernel)
  have B3 := sf_uB (a := .inl 88) (r := 200) (i := N) B2 rfl pa4 (by decide +kernel)
  have B4 := sf_uB (a := .inl 89) (r := 201) (i := N) B3 rfl pa5 (by decide +kernel)
  have B5 := sf_uB (a := .inl 84) (i := 0) (r := 190) (lo := 0) (hi := 40) B4 rfl (sf_nI (n := N + 1) (by omega) (by decide +kernel)) (by decide +kernel)
  have B6 := sf_uB (a := .inl 84) (i := 1) (r := 191) B5 rfl (iv_k (x := 0) (n := 0) rfl) (by decide +kernel)
  refine hQ _ (B6.I ?_) (sf_Eu (r := 191) rfl (by decide +kernel) (sf_Eu (r := 190) rfl (by decide +kernel) (sf_Eu (r := 201) rfl (by decide +kernel) (sf_Eu (r := 200) rfl (by decide +kernel) (sf_Eu (r := 199) rfl (by decide +kernel) (sf_Eu (r := 198) rfl (by decide +kernel) (sf_ER (r := 426) rfl (by decide +kernel) (sf_E0 _ _))))))))
  have J2 : sf_J (mx_uI (mx_uI (mx_uR h (.inl 85) N (some (.inr (a1, 0)))) (.inl 86) N a2) (.inl 87) N a3) := sf_J3w I0.2.2 (fun q => by omega)
  have J4 : sf_J (mx_uI (mx_uI (mx_uI (mx_uI (mx_uR h (.inl 85) N (some (.inr (a1, 0)))) (.inl 86) N a2) (.inl 87) N a3) (.inl 88) N a4) (.inl 89) N a5) := sf_J_u (by show sf_jr 201 = false; decide) (sf_J_u (by show sf_jr 200 = false; decide) J2)
  generalize hg : (mx_uI (mx_uI (mx_uI (mx_uI (mx_uR h (.inl 85) N (some (.inr (a1, 0)))) (.inl 86) N a2) (.inl 87) N a3) (.inl 88) N a4) (.inl 89) N a5) = H4 at J4
  have e0 : (H4.2.1 (.inl 84) 0) = nI N := by
    subst hg
    exact hs
  have e1 : (H4.2.1 (.inl 86) N) = a2 := by
    subst hg
    rw [sf_ro (by decide +kernel), sf_ro (by decide +kernel), sf_ro (by decide +kernel), sf_rs]
  have e2 : (H4.2.1 (.inl 87) N) = a3 := by
    subst hg
    rw [sf_ro (by decide +kernel), sf_ro (by decide +kernel), sf_rs]
  have o : ∀ n i, n ≠ 84 → sf_jf (mx_uI (mx_uI H4 (.inl 84) 0 (nI (N + 1))) (.inl 84) 1 0) (.inl n) i = sf_jf H4 (.inl n) i := fun n i hn => (sf_jf_o (fun q => hn (Sum.inl.inj q.1))).trans (sf_jf_o (fun q => hn (Sum.inl.inj q.1)))
  refine sf_Jg3 (h := H4) (fun n i hn => o n i hn.1) (fun q i => (sf_jf_o (fun q => by cases q.1)).trans (sf_jf_o (fun q => by cases q.1))) rfl rfl J4 ?_
  have h3 := J4.1.2.2.1
  have u1 := (sf_rd (r := 191) (lo := 0) (hi := 40) hI (.inl 84) 1 rfl rfl).1
  have u2 : H4.2.1 (.inl 84) 1 = h.2.1 (.inl 84) 1 := by
    subst hg
    rfl
  unfold sf_J3 at *
  rw [sf_84 (Or.inl rfl), sf_84 (Or.inr rfl)] at *
  rw [show (mx_uI (mx_uI H4 (.inl 84) 0 (nI (N + 1))) (.inl 84) 1 0).2.1 (.inl 84) 0 = nI (N + 1) from rfl, show (mx_uI (mx_uI H4 (.inl 84) 0 (nI (N + 1))) (.inl 84) 1 0).2.1 (.inl 84) 1 = 0 from rfl, nI_toInt (by omega), show (0 : Int32).toInt = 0 from rfl]
  rw [e0, u2, nI_toInt (by omega)] at h3
  refine ⟨by omega, fun k hk q => ?_⟩
  rw [o _ _ (by decide +kernel)] at q ⊢
  by_cases e : k = N
  · subst e
    rw [sf_jfr (r := 198) rfl rfl, e1] at q
    rw [sf_jfr (r := 199) rfl rfl, e2]
    omega
  · exact h3.2 k (by omega) q
theorem sf17 {t1 : Nat} {a2 a3 a4 a5 : Int32} (pa2 : sf_iv 0 4 a2) (pa3 : sf_iv 0 14 a3) (pa4 : sf_iv 0 99 a4) (pa5 : sf_iv 0 99 a5) (r0 : 4 ≤ a2.toInt ∨ a3.toInt ≤ 5) (hI : sf_I h) (hQ : ∀ h', sf_I h' → sf_E 173291855882550928723650886508942731464777317210988535948154973788419862463343874193542255616197070396596221023080992060469149696 h h' → Q none h') :
    mx_C E (mx_fn true) (d + 1) 17 [.inr (.inl 84), .inr (.inr (t1, 0)), .inl (.int a2), .inl (.int a3), .inl (.int a4), .inl (.int a5)] h Q := by
  refine sg17_0 ⟨fun g => sf17k pa2 pa3 pa4 pa5 r0 hI g hQ, fun g => sf18 (Int32.le_iff_toInt_le.mp (Int32.not_lt.mp g)) hI (fun h' I' E' z => hx_n (sf17k pa2 pa3 pa4 pa5 r0 I' (Int32.lt_iff_toInt_lt.mpr ?_) (fun h2 I2 E2 => hQ h2 I2 (sf_Et (by decide +kernel) (sf_Et (by decide +kernel) (sf_E0 _ _) E') E2))))⟩
  rw [show (40 : Int32).toInt = 40 from rfl]
  omega
end SFA
