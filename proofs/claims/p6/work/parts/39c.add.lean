/-! ===== class: an act is kept ===== -/
section SFA
variable {E : mx_Ev} {d : Nat} {h : mx_H} {Q : Option mx_V → mx_H → Prop}
theorem sf17k {a1 : Nat} {a2 a3 a4 a5 : Int32} (pa2 : sf_iv 0 4 a2) (pa3 : sf_iv 0 14 a3) (pa4 : sf_iv 0 99 a4) (pa5 : sf_iv 0 99 a5) (r0 : 4 ≤ a2.toInt ∨ a3.toInt ≤ 5) (hI : sf_I h) (g : (h.2.1 (.inl 84) 0) < 40) (hQ : ∀ h', sf_I h' → sf_E 173291855882550928723650886508942731464777317210988535948154973788419862463343874193542255616197070396596221023080992060469149696 h h' → Q none h') :
    vp_in (h.2.1 (.inl 84) 0) 40 ∧ mx_fn true (.inl 85) (Int32.toNatClampNeg (h.2.1 (.inl 84) 0)) = none ∧ vp_in (h.2.1 (.inl 84) 0) 40 ∧ vp_in (h.2.1 (.inl 84) 0) 40 ∧ vp_in (h.2.1 (.inl 84) 0) 40 ∧ vp_in (h.2.1 (.inl 84) 0) 40 ∧
    Q none (mx_uI (mx_uI (mx_uI (mx_uI (mx_uI (mx_uI (mx_uR h (.inl 85) (Int32.toNatClampNeg (h.2.1 (.inl 84) 0)) (some (.inr (a1, 0)))) (.inl 86) (Int32.toNatClampNeg (h.2.1 (.inl 84) 0)) a2) (.inl 87) (Int32.toNatClampNeg (h.2.1 (.inl 84) 0)) a3) (.inl 88) (Int32.toNatClampNeg (h.2.1 (.inl 84) 0)) a4) (.inl 89) (Int32.toNatClampNeg (h.2.1 (.inl 84) 0)) a5) (.inl 84) 0 (h.2.1 (.inl 84) 0 + 1)) (.inl 84) 1 0) := by
  obtain ⟨N, hN, hs⟩ := sf_of (b := 40) (sf_rd (r := 190) (lo := 0) (hi := 40) hI (.inl 84) 0 rfl rfl)
  have hN5 : N < 40 := by
    rw [hs] at g
    have := Int32.lt_iff_toInt_lt.mp g
    rw [nI_toInt (by omega), show (40 : Int32).toInt = 40 from rfl] at this
    omega
  have hv : vp_in (h.2.1 (.inl 84) 0) 40 := by
    rw [hs]
    exact vp_in_nI hN5 (by decide)
  have hc : (h.2.1 (.inl 84) 0).toNatClampNeg = N := by
    rw [hs]
    exact nI_clamp (by omega)
  refine ⟨hv, rfl, hv, hv, hv, hv, ?_⟩
  rw [hc, hs, nI_1]
  have I0 : sf_I (mx_uR h (.inl 85) N (some (.inr (a1, 0)))) := sf_uR hI (Or.inl rfl) sf_vs
  have B1 := sf_uB (a := .inl 86) (r := 198) (i := N) I0.B rfl pa2 (by decide)
  have B2 := sf_uB (a := .inl 87) (r := 199) (i := N) B1 rfl pa3 (by decide)
  have B3 := sf_uB (a := .inl 88) (r := 200) (i := N) B2 rfl pa4 (by decide)
  have B4 := sf_uB (a := .inl 89) (r := 201) (i := N) B3 rfl pa5 (by decide)
  have B5 := sf_uB (a := .inl 84) (i := 0) (r := 190) (lo := 0) (hi := 40) B4 rfl (sf_nI (n := N + 1) (by omega) (by decide)) (by decide)
  have B6 := sf_uB (a := .inl 84) (i := 1) (r := 191) B5 rfl (iv_k (x := 0) (n := 0) rfl) (by decide)
  refine hQ _ (B6.I ?_) (sf_Eu (r := 191) rfl (by decide) (sf_Eu (r := 190) rfl (by decide) (sf_Eu (r := 201) rfl (by decide) (sf_Eu (r := 200) rfl (by decide) (sf_Eu (r := 199) rfl (by decide) (sf_Eu (r := 198) rfl (by decide) (sf_ER (r := 426) rfl (by decide) (sf_E0 _ _))))))))
  have J2 : sf_J (mx_uI (mx_uI (mx_uR h (.inl 85) N (some (.inr (a1, 0)))) (.inl 86) N a2) (.inl 87) N a3) := sf_J3w I0.2.2 (fun q => by omega)
  have J4 : sf_J (mx_uI (mx_uI (mx_uI (mx_uI (mx_uR h (.inl 85) N (some (.inr (a1, 0)))) (.inl 86) N a2) (.inl 87) N a3) (.inl 88) N a4) (.inl 89) N a5) := sf_J_u (by show sf_jr 201 = false; decide) (sf_J_u (by show sf_jr 200 = false; decide) J2)
  generalize hg : (mx_uI (mx_uI (mx_uI (mx_uI (mx_uR h (.inl 85) N (some (.inr (a1, 0)))) (.inl 86) N a2) (.inl 87) N a3) (.inl 88) N a4) (.inl 89) N a5) = H4 at J4
  have e0 : (H4.2.1 (.inl 84) 0) = nI N := by
    subst hg
    exact hs
  have e1 : (H4.2.1 (.inl 86) N) = a2 := by
    subst hg
    rw [sf_ro (by decide), sf_ro (by decide), sf_ro (by decide), sf_rs]
  have e2 : (H4.2.1 (.inl 87) N) = a3 := by
    subst hg
    rw [sf_ro (by decide), sf_ro (by decide), sf_rs]
  have o : ∀ n i, n ≠ 84 → sf_jf (mx_uI (mx_uI H4 (.inl 84) 0 (nI (N + 1))) (.inl 84) 1 0) (.inl n) i = sf_jf H4 (.inl n) i := fun n i hn => (sf_jf_o (fun q => hn (Sum.inl.inj q.1))).trans (sf_jf_o (fun q => hn (Sum.inl.inj q.1)))
  refine sf_Jg3 (h := H4) (fun n i hn => o n i hn.1) (fun q i => (sf_jf_o (fun q => by cases q.1)).trans (sf_jf_o (fun q => by cases q.1))) rfl rfl J4 ?_
  have h3 := J4.1.2.2.1
  have u1 := (sf_rd (r := 191) (lo := 0) (hi := 40) hI (.inl 84) 1 rfl rfl).1
  have u2 : H4.2.1 (.inl 84) 1 = h.2.1 (.inl 84) 1 := by
    subst hg
    rfl
  unfold sf_J3 at *
  rw [sf_84 (Or.inl rfl), sf_84 (Or.inr rfl)] at *
  rw [show (mx_uI (mx_uI H4 (.inl 84) 0 (nI (N + 1))) (.inl 84) 1 0).2.1 (.inl 84) 0 = nI (N + 1) from rfl, show (mx_uI (mx_uI H4 (.inl 84) 0 (nI (N + 1))) (.inl 84) 1 0).2.1 (.inl 84) 1 = 0 from rfl, nI_toInt (by omega), show (0 : Int32).toInt = 0 from rfl]
  rw [e0, u2, nI_toInt (by omega)] at h3
  refine ⟨by omega, fun k hk q => ?_⟩
  rw [o _ _ (by decide)] at q ⊢
  by_cases e : k = N
  · subst e
    rw [sf_jfr (r := 198) rfl rfl, e1] at q
    rw [sf_jfr (r := 199) rfl rfl, e2]
    omega
  · exact h3.2 k (by omega) q
theorem sf17 {t1 : Nat} {a2 a3 a4 a5 : Int32} (pa2 : sf_iv 0 4 a2) (pa3 : sf_iv 0 14 a3) (pa4 : sf_iv 0 99 a4) (pa5 : sf_iv 0 99 a5) (r0 : 4 ≤ a2.toInt ∨ a3.toInt ≤ 5) (hI : sf_I h) (hQ : ∀ h', sf_I h' → sf_E 173291855882550928723650886508942731464777317210988535948154973788419862463343874193542255616197070396596221023080992060469149696 h h' → Q none h') :
    mx_C E (mx_fn true) (d + 1) 17 [.inr (.inl 84), .inr (.inr (t1, 0)), .inl (.int a2), .inl (.int a3), .inl (.int a4), .inl (.int a5)] h Q := by
  refine sg17_0 ⟨fun g => sf17k pa2 pa3 pa4 pa5 r0 hI g hQ, fun g => sf18 (Int32.le_iff_toInt_le.mp (Int32.not_lt.mp g)) hI (fun h' I' E' z => hx_n (sf17k pa2 pa3 pa4 pa5 r0 I' (Int32.lt_iff_toInt_lt.mpr ?_) (fun h2 I2 E2 => hQ h2 I2 (sf_Et (by decide) (sf_Et (by decide) (sf_E0 _ _) E') E2))))⟩
  rw [show (40 : Int32).toInt = 40 from rfl]
  omega
end SFA
