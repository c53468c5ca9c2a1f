/-! ===== reference: setPiece, setStiff, exactly ===== -/
theorem nI_divn {n k : Nat} (hn : n < 2 ^ 31) (hk : 0 < k) (hk2 : k < 2 ^ 31) : nI n / nI k = nI (n / k) := by
  apply Int32.toInt_inj.mp
  rw [li_div (a := 0) (b := 2147483647) (k := (k : Int)) (X := (n : Int)) (x := nI n) (y := nI k) ⟨by rw [nI_toInt hn]; omega, by rw [nI_toInt hn]; omega⟩ (by simp only [Bool.and_eq_true, decide_eq_true_eq]; omega) (nI_toInt hn) (nI_toInt hk2), nI_toInt (Nat.lt_of_le_of_lt (Nat.div_le_self n k) hn)]
  exact (Int.natCast_ediv n k).symm
theorem nI_subn {a b : Nat} (h : b ≤ a) : nI a - nI b = nI (a - b) := by
  have e : nI a = nI (a - b) + nI b := by
    rw [nI_add]
    congr 1
    omega
  rw [e, Int32.add_sub_cancel]
theorem nI_36 (a b c : Nat) : 36 * nI a + 6 * nI b + nI c = nI (36 * a + 6 * b + c) := by
  rw [show (6 : Int32) = nI 6 from rfl, show (36 : Int32) = nI 36 from rfl, nI_mul, nI_mul, nI_add, nI_add]
def sx_p (h : mx_H) (p : Nat) (b s c : Int32) : mx_H := mx_uI (mx_uI (mx_uI h (.inl 113) p b) (.inl 111) p s) (.inl 112) p c
section SXS
variable {E : mx_Ev} {d : Nat} {h : mx_H} {Q : Option mx_V → mx_H → Prop}
theorem sx181 {S A B : Nat} {a4 a5 a6 : Int32} (hS : S ≤ 12) (hA : A ≤ 5) (hB : B ≤ 5) (hQ : Q none (sx_p (sx_p h (36 * S + 6 * A + B) (a4 + 1) a5 a6) (36 * S + 6 * B + A) (a4 + 1) a5 a6)) : mx_C E (mx_fn true) (d + 1) 181 [.inr (.inl 105), .inl (.int (nI S)), .inl (.int (nI A)), .inl (.int (nI B)), .inl (.int a4), .inl (.int a5), .inl (.int a6)] h Q := by
  refine sg181_0 (sg181_3 ⟨fun g => absurd g (by decide), fun _ => ⟨fun g => absurd rfl g, fun _ => sg179_0 (hx_i ?_)⟩⟩)
  rw [nI_36]
  have v1 : vp_in (nI (36 * S + 6 * A + B)) 468 := vp_in_nI (by omega) (by decide)
  refine ⟨v1, v1, v1, sg181_3 ⟨fun g => absurd g (by decide), fun _ => ⟨fun _ => sg179_0 (hx_i ?_), fun g => absurd (by decide) g⟩⟩⟩
  rw [nI_36]
  have v2 : vp_in (nI (36 * S + 6 * B + A)) 468 := vp_in_nI (by omega) (by decide)
  refine ⟨v2, v2, v2, sg181_3 ⟨fun _ => ?_, fun g => absurd (by decide) g⟩⟩
  rw [nI_clamp (by omega), nI_clamp (by omega)]
  exact hQ
theorem sx199 {S A B : Nat} {a2 a3 : Int32} (hS : S ≤ 12) (hA : A ≤ 5) (hB : B ≤ 5) (hQ : Q none (sx_p (sx_p h (36 * S + 6 * A + B) (h.2.1 (.inl 113) (36 * S + 6 * A + B)) a2 a3) (36 * S + 6 * B + A) (h.2.1 (.inl 113) (36 * S + 6 * A + B)) a2 a3)) : mx_C E (mx_fn true) (d + 2) 199 [.inr (.inl 105), .inl (.int (nI (36 * S + 6 * A + B))), .inl (.int a2), .inl (.int a3)] h Q := by
  refine sg199_0 ⟨by decide, by decide, by decide, by decide, vp_in_nI (by omega) (by decide), ?_⟩
  have e1 : nI (36 * S + 6 * A + B) / 36 = nI S := by
    rw [show (36 : Int32) = nI 36 from rfl, nI_divn (by omega) (by decide) (by decide)]
    congr 1
    omega
  have e2 : nI (36 * S + 6 * A + B) / 6 = nI (6 * S + A) := by
    rw [show (6 : Int32) = nI 6 from rfl, nI_divn (by omega) (by decide) (by decide)]
    congr 1
    omega
  have e3 : nI (6 * S + A) - nI (6 * S + A) / 6 * 6 = nI A := by
    rw [show (6 : Int32) = nI 6 from rfl, nI_divn (by omega) (by decide) (by decide), nI_mul, nI_subn (by omega)]
    congr 1
    omega
  have e4 : nI (36 * S + 6 * A + B) - nI (6 * S + A) * 6 = nI B := by
    rw [show (6 : Int32) = nI 6 from rfl, nI_mul, nI_subn (by omega)]
    congr 1
    omega
  rw [e1, e2, e3, e4, nI_clamp (by omega)]
  refine sx181 hS hA hB (hx_n ?_)
  rw [show h.2.1 (.inl 113) (36 * S + 6 * A + B) - 1 + 1 = h.2.1 (.inl 113) (36 * S + 6 * A + B) from Int32.sub_add_cancel _ _]
  exact hQ
end SXS
/-! what the reference's cells say, behind a write to them -/
theorem sf_JRo {h : mx_H} {n i : Nat} {v : Int32} : ∀ n' i', ¬ (n' = n ∧ i' = i) → sf_jf (mx_uI h (.inl n) i v) (.inl n') i' = sf_jf h (.inl n') i' := fun n' i' hne => sf_jf_o (fun q => hne ⟨Sum.inl.inj q.1, q.2⟩)
theorem sf_r1 {h : mx_H} {i : Nat} : sf_jf h (.inl 113) i = (h.2.1 (.inl 113) i).toInt := sf_jfr (r := 325) rfl rfl
theorem sf_r2 {h : mx_H} {i : Nat} : sf_jf h (.inl 111) i = (h.2.1 (.inl 111) i).toInt := sf_jfr (r := 323) rfl rfl
/-- a piece told anew: the same body, still stiff -/
theorem sf_Kp {h : mx_H} {p : Nat} {b s c : Int32} (hI : sf_I h) (hb : h.2.1 (.inl 113) p = b) (ps : sf_iv 0 9 s) (pc : sf_iv 0 9 c) (hs : 0 < b.toInt → 1 ≤ s.toInt) : sf_I (sx_p h p b s c) := by
  have e : mx_uI h (.inl 113) p b = h := by
    have e1 : mx_up h.2.1 (.inl 113) p b = h.2.1 := by
      funext a i
      unfold mx_up
      by_cases q : a = .inl 113 ∧ i = p
      · rw [if_pos q, q.1, q.2, hb]
      · rw [if_neg q]
    show (h.1, mx_up h.2.1 (.inl 113) p b, h.2.2.1, h.2.2.2) = h
    rw [e1]
  unfold sx_p
  rw [e]
  refine sf_uI (r := 324) (sf_uJ (r := 323) hI rfl ps (by decide) (sf_JwR (by decide) hI.2.2 ?_)) rfl pc (by decide)
  obtain ⟨k1, k2, k3, k4, k5⟩ := hI.2.2.2
  have o : ∀ n' i', n' ≠ 111 → sf_jf (mx_uI h (.inl 111) p s) (.inl n') i' = sf_jf h (.inl n') i' := fun n' i' hne => sf_JRo n' i' (by omega)
  refine ⟨?_, ?_, ?_, ?_, ?_⟩
  · unfold sf_K1 at *
    simp only [o 105 _ (by decide), o 123 _ (by decide), o 124 _ (by decide), o 125 _ (by decide), o 126 _ (by decide)]
    exact k1
  · intro s' c' q1 q2
    rw [o _ _ (by decide)] at q1 q2 ⊢
    exact k2 s' c' q1 q2
  · intro p' q1 q2
    rw [o _ _ (by decide)] at q1 q2
    by_cases e : p' = p
    · subst e
      rw [sf_r1, hb] at q2
      rw [sf_r2, sf_rs]
      exact hs q2
    · rw [sf_JRo _ _ (by omega)]
      exact k3 p' q1 q2
  · intro s' a' b' q1 q2 q3
    rw [o _ _ (by decide)] at q1
    rw [o _ _ (by decide), o _ _ (by decide)]
    exact k4 s' a' b' q1 q2 q3
  · unfold sf_K5 at *
    simp only [o 105 _ (by decide), o 106 _ (by decide), o 113 _ (by decide), o 117 _ (by decide)]
    exact k5
