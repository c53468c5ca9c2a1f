/-! ===== by hand: what writes where more is known than bounds ===== -/
theorem sf_jf_o {h : mx_H} {a : mx_A} {i : Nat} {v : Int32} {b : mx_A} {j : Nat} (hne : ¬ (b = a ∧ j = i)) : sf_jf (mx_uI h a i v) b j = sf_jf h b j := by
  unfold sf_jf
  rw [show (mx_uI h a i v).2.1 b j = h.2.1 b j from if_neg hne]
/-- a write to the list of strokes -/
theorem sf_Jw2 {h : mx_H} {n i : Nat} {v : Int32} (hn : n = 60 ∨ n = 61 ∨ n = 62) (hJ : sf_J h) (h2 : sf_J2 (sf_jf (mx_uI h (.inl n) i v))) : sf_J (mx_uI h (.inl n) i v) := by
  have o : ∀ k j, k ≠ n → sf_jf (mx_uI h (.inl n) i v) (.inl k) j = sf_jf h (.inl k) j := fun k j hk => sf_jf_o (fun q => hk (Sum.inl.inj q.1))
  refine ⟨⟨sf_J1_c (fun j q k _ => sf_jf_o (fun q => by cases q.1)) hJ.1.1, h2, ?_, ?_⟩, sf_JR_c (fun k j hk => o k j (by omega)) hJ.2⟩
  · exact sf_J3_c (o _ _ (by omega)) (o _ _ (by omega)) (fun j => o _ j (by omega)) (fun j => o _ j (by omega)) hJ.1.2.2.1
  · exact sf_J4_c (o _ _ (by omega)) hJ.1.2.2.2
section SFH
variable {E : mx_Ev} {d : Nat} {h : mx_H} {Q : Option mx_V → mx_H → Prop}
theorem sf124 (hI : sf_I h) (hQ : ∀ x h', sf_I h' → sf_E 2961817721679848385985212583086110512513024 h h' → sf_iv 0 6 x → Q (some (.inl (.int x))) h') : mx_C E (mx_fn true) d 124 [.inr (.inl 0)] h Q := by
  have J2 : sf_J2 (sf_jf (mx_uI h (.inl 60) 1 0)) := by
    intro k hk
    rw [sf_jfu (r := 137) rfl rfl, if_pos ⟨rfl, rfl⟩, show (0 : Int32).toInt = 0 from rfl] at hk
    omega
  have hI1 : sf_I (mx_uI h (.inl 60) 1 0) := sf_uJ (r := 137) hI rfl (iv_k (n := 0) rfl) (by decide) (sf_Jw2 (Or.inl rfl) hI.2.2 J2)
  exact sg124_0 (hQ _ _ (sf_uI (r := 141) hI1 rfl (iv_k (n := 0) rfl) (by decide)) (sf_Eu (r := 141) rfl (by decide) (sf_Eu (r := 137) rfl (by decide) (sf_E0 _ _))) (sf_rd (r := 137) hI (.inl 60) 1 rfl rfl))
theorem sf44 {a1 a2 a3 : Int32} (pa1 : sf_iv 3 4 a1) (pa2 : sf_iv 0 14 a2) (pa3 : sf_iv 1 3 a3) (r0 : ¬ a1.toInt = 3 ∨ a2.toInt ≤ 5) (hI : sf_I h) (hQ : ∀ h', sf_I h' → sf_E 4995541149042723104197294140872238042663878656 h h' → Q none h') : mx_C E (mx_fn true) d 44 [.inr (.inl 60), .inl (.int a1), .inl (.int a2), .inl (.int a3)] h Q := by
  obtain ⟨N, hN, hs⟩ := sf_of (b := 6) (sf_rd (r := 137) (lo := 0) (hi := 6) hI (.inl 60) 1 rfl rfl)
  refine sg44_0 ⟨fun g => ?_, fun _ => hQ _ hI (sf_E0 _ _)⟩
  have hN5 : N < 6 := by
    rw [hs] at g
    have := Int32.lt_iff_toInt_lt.mp g
    rw [nI_toInt (by omega), show (6 : Int32).toInt = 6 from rfl] at this
    omega
  have hv : vp_in (h.2.1 (.inl 60) 1) 6 := by
    rw [hs]
    exact vp_in_nI hN5 (by decide)
  have hc : (h.2.1 (.inl 60) 1).toNatClampNeg = N := by
    rw [hs]
    exact nI_clamp (by omega)
  have hf : ∀ h' : mx_H, h'.2.1 (.inl 60) 1 = nI N → sf_jf h' (.inl 60) 1 = N := fun h' e => by
    rw [sf_jfr (r := 137) rfl rfl, e, nI_toInt (by omega)]
  refine ⟨hv, hv, hv, ?_⟩
  -- what stands at N does not matter as long as N strokes are told
  have s1 : (mx_uI h (.inl 61) N a1).2.1 (.inl 60) 1 = nI N := hs
  have I1 : sf_I (mx_uI h (.inl 61) N a1) := by
    refine sf_uJ (r := 149) hI rfl pa1 (by decide) (sf_Jw2 (Or.inr (Or.inl rfl)) hI.2.2 ?_)
    intro k hk q
    rw [hf _ s1] at hk
    rw [sf_jf_o (fun q => by have := q.2; omega)] at q
    rw [sf_jf_o (fun q => by cases q.1)]
    exact hI.2.2.1.2.1 k (by rw [hf h hs]; exact hk) q
  have s2 : (mx_uI (mx_uI h (.inl 61) N a1) (.inl 62) N a2).2.1 (.inl 60) 1 = nI N := hs
  have I2 : sf_I (mx_uI (mx_uI h (.inl 61) N a1) (.inl 62) N a2) := by
    refine sf_uJ (r := 150) I1 rfl pa2 (by decide) (sf_Jw2 (Or.inr (Or.inr rfl)) I1.2.2 ?_)
    intro k hk q
    rw [hf _ s2] at hk
    rw [sf_jf_o (fun q => by cases q.1)] at q
    rw [sf_jf_o (fun q => by have := q.2; omega)]
    exact I1.2.2.1.2.1 k (by rw [hf _ s1]; exact hk) q
  have I3 : sf_I (mx_uI (mx_uI (mx_uI h (.inl 61) N a1) (.inl 62) N a2) (.inl 63) N a3) := sf_uI (r := 151) I2 rfl pa3 (by decide)
  have s3 : (mx_uI (mx_uI (mx_uI h (.inl 61) N a1) (.inl 62) N a2) (.inl 63) N a3).2.1 (.inl 60) 1 = nI N := hs
  have I4 : sf_I (mx_uI (mx_uI (mx_uI (mx_uI h (.inl 61) N a1) (.inl 62) N a2) (.inl 63) N a3) (.inl 60) 1 (nI N + 1)) := by
    rw [nI_1]
    refine sf_uJ (r := 137) (lo := 0) (hi := 6) I3 rfl (sf_nI (by omega) (by decide)) (by decide) (sf_Jw2 (Or.inl rfl) I3.2.2 ?_)
    intro k hk q
    rw [sf_jfu (r := 137) rfl rfl, if_pos ⟨rfl, rfl⟩, nI_toInt (by omega)] at hk
    rw [sf_jf_o (fun q => by cases q.1)] at q ⊢
    by_cases hkN : k = N
    · subst hkN
      rw [sf_jf_o (fun q => by cases q.1), sf_jf_o (fun q => by cases q.1), sf_jfu (r := 149) rfl rfl, if_pos ⟨rfl, rfl⟩] at q
      rw [sf_jf_o (fun q => by cases q.1), sf_jfu (r := 150) rfl rfl, if_pos ⟨rfl, rfl⟩]
      rcases r0 with r0 | r0
      · exact absurd q r0
      · exact r0
    · exact I3.2.2.1.2.1 k (by rw [hf _ s3]; omega) q
  have K := hQ _ I4 (sf_Eu (r := 137) rfl (by decide) (sf_Eu (r := 151) rfl (by decide) (sf_Eu (r := 150) rfl (by decide) (sf_Eu (r := 149) rfl (by decide) (sf_E0 _ _)))))
  rw [show ((mx_uI h (.inl 61) (Int32.toNatClampNeg (h.2.1 (.inl 60) 1)) a1).2.1 (.inl 60) 1) = h.2.1 (.inl 60) 1 from rfl]
  show Q none (mx_uI (mx_uI (mx_uI (mx_uI h (.inl 61) (Int32.toNatClampNeg (h.2.1 (.inl 60) 1)) a1) (.inl 62) (Int32.toNatClampNeg (h.2.1 (.inl 60) 1)) a2) (.inl 63) (Int32.toNatClampNeg (h.2.1 (.inl 60) 1)) a3) (.inl 60) 1 (h.2.1 (.inl 60) 1 + 1))
  rw [hc, hs]
  exact K
/-- a told stroke of HEAVY names a corner -/
theorem sf_j2x {k : Int32} (hI : sf_I h) (h0 : 0 ≤ k.toInt) (hk : k.toInt < (h.2.1 (.inl 60) 1).toInt) : ¬ (h.2.1 (.inl 61) k.toNatClampNeg).toInt = 3 ∨ (h.2.1 (.inl 62) k.toNatClampNeg).toInt ≤ 5 := by
  by_cases q : (h.2.1 (.inl 61) k.toNatClampNeg).toInt = 3
  · refine Or.inr ?_
    have hj := hI.2.2.1.2.1 k.toNatClampNeg (by
      rw [sf_jfr (r := 137) rfl rfl]
      show ((k.toInt.toNat : Nat) : Int) < _
      omega) (by rw [sf_jfr (r := 149) rfl rfl]; exact q)
    rw [sf_jfr (r := 150) rfl rfl] at hj
    exact hj
  · exact Or.inl q
end SFH
