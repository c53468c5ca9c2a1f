/-! ===== what both sides hold alike: damp, how many are heard, how many ratios, the ears ===== -/
def sq_R (h : mx_H) : Prop := (h.2.1 (.inl 71) 0).toInt = (h.2.1 (.inl 105) 71).toInt ∧ (h.2.1 (.inl 68) 0).toInt = (h.2.1 (.inl 105) 65).toInt ∧ (h.2.1 (.inl 80) 0).toInt = (h.2.1 (.inl 105) 83).toInt ∧ ∀ j : Nat, h.2.1 (.inl 72) j = h.2.1 (.inl 149) j
def sq_ok (m : Nat) : Bool := !m.testBit 164 && !m.testBit 295 && !m.testBit 156 && !m.testBit 289 && !m.testBit 183 && !m.testBit 307 && !m.testBit 175 && !m.testBit 361
theorem sq_f {m : Nat} {h h' : mx_H} (hm : sq_ok m = true) (e : sf_El m h h') (r : sq_R h) : sq_R h' := by
  unfold sq_ok at hm
  simp only [Bool.and_eq_true, Bool.not_eq_true'] at hm
  obtain ⟨⟨⟨⟨⟨⟨⟨b1, b2⟩, b3⟩, b4⟩, b5⟩, b6⟩, b7⟩, b8⟩ := hm
  obtain ⟨r1, r2, r3, r4⟩ := r
  refine ⟨?_, ?_, ?_, fun j => ?_⟩
  · rw [e 71 0 b1, e 105 71 b2]
    exact r1
  · rw [e 68 0 b3, e 105 65 b4]
    exact r2
  · rw [e 80 0 b5, e 105 83 b6]
    exact r3
  · rw [e 72 j b7, e 149 j b8]
    exact r4 j
def sq_ev (a1 a2 : Int32) : Prop := (0 ≤ a1 ∧ a1 ≤ 3) ∧ ((-1 : Int32) ≤ a2 ∧ a2 ≤ 5)
section SQE
variable {E : mx_Ev} {d : Nat} {h : mx_H} {Q : Option mx_V → mx_H → Prop} {a1 a2 : Int32}
theorem sq_in (g : 0 ≤ a1 ∧ a1 ≤ 3) : vp_in a1 4 := by
  refine iv_in (a := 0) (b := 3) (n := 4) ⟨?_, ?_⟩ (by decide)
  · exact Int32.le_iff_toInt_le.mp g.1
  · exact Int32.le_iff_toInt_le.mp g.2
theorem sf130e (hQ1 : sq_ev a1 a2 → Q (some (.inl (.int (h.2.1 (.inl 72) a1.toNatClampNeg)))) (mx_uI h (.inl 72) a1.toNatClampNeg a2)) (hQ0 : ¬ sq_ev a1 a2 → Q (some (.inl (.int (-2000000000)))) h) : mx_C E (mx_fn true) (d + 2) 130 [.inr (.inl 0), .inl (.int a1), .inl (.int a2)] h Q :=
  sg130_0 (sg160_0 (sp_wi (fun g => hx_i ⟨Or.inr rfl, hx_i ⟨fun q => absurd q (by decide), fun _ => sp_wi (fun g2 => hx_i ⟨fun _ => ⟨sq_in g, sq_in g, hQ1 ⟨g, g2⟩⟩, fun q => absurd (by decide) q⟩) (fun g2 => hx_i ⟨fun q => absurd rfl q, fun _ => hQ0 (fun e => g2 e.2)⟩)⟩⟩) (fun g => hx_i ⟨Or.inl rfl, hx_i ⟨fun _ => hQ0 (fun e => g e.1), fun q => absurd rfl q⟩⟩)))
theorem sf256e (hQ1 : sq_ev a1 a2 → Q (some (.inl (.int (h.2.1 (.inl 149) a1.toNatClampNeg)))) (mx_uI h (.inl 149) a1.toNatClampNeg a2)) (hQ0 : ¬ sq_ev a1 a2 → Q (some (.inl (.int (-2000000000)))) h) : mx_C E (mx_fn true) (d + 2) 256 [.inr (.inl 105), .inl (.int a1), .inl (.int a2)] h Q :=
  sg256_0 (sg255_0 (sp_ini (fun g => hx_i ⟨Or.inr rfl, hx_i ⟨fun q => absurd q (by decide), fun _ => sp_ini (fun g2 => hx_i ⟨fun _ => ⟨sq_in g, sq_in g, hQ1 ⟨g, g2⟩⟩, fun q => absurd (by decide) q⟩) (fun g2 => hx_i ⟨fun q => absurd rfl q, fun _ => hQ0 (fun e => g2 e.2)⟩)⟩⟩) (fun g => hx_i ⟨Or.inl rfl, hx_i ⟨fun _ => hQ0 (fun e => g e.1), fun q => absurd rfl q⟩⟩)))
theorem sq_eI (ev : sq_ev a1 a2) (hI : sf_I h) : sf_I (mx_uI (mx_uI h (.inl 72) a1.toNatClampNeg a2) (.inl 149) a1.toNatClampNeg a2) := by
  have p : sf_iv (-1) 5 a2 := ⟨Int32.le_iff_toInt_le.mp ev.2.1, Int32.le_iff_toInt_le.mp ev.2.2⟩
  exact sf_uI (r := 361) (sf_uI (r := 175) hI rfl p (by decide)) rfl p (by decide)
theorem sq_eR (hR : sq_R h) : sq_R (mx_uI (mx_uI h (.inl 72) a1.toNatClampNeg a2) (.inl 149) a1.toNatClampNeg a2) := by
  obtain ⟨r1, r2, r3, r4⟩ := hR
  refine ⟨r1, r2, r3, fun j => ?_⟩
  rw [sf_ro (by decide)]
  by_cases c : j = a1.toNatClampNeg
  · rw [c, sf_rs, sf_rs]
  · rw [sf_roi c, sf_roi c, sf_ro (by decide)]
    exact r4 j
end SQE
set_option maxRecDepth 1000000 in
theorem sq_00 : sp_hN.2.1 (.inl 71) 0 = 0 ∧ sp_hN.2.1 (.inl 105) 71 = 0 ∧ sp_hN.2.1 (.inl 68) 0 = 0 ∧ sp_hN.2.1 (.inl 105) 65 = 0 ∧ sp_hN.2.1 (.inl 80) 0 = 0 ∧ sp_hN.2.1 (.inl 105) 83 = 0 ∧ ∀ j, j < 4 → sp_hN.2.1 (.inl 72) j = sp_hN.2.1 (.inl 149) j := by decide +kernel
theorem sq_0 : sq_R sp_hN := by
  obtain ⟨n1, n2, n3, n4, n5, n6, n7⟩ := sq_00
  unfold sq_R
  rw [n1, n2, n3, n4, n5, n6]
  refine ⟨rfl, rfl, rfl, fun j => ?_⟩
  by_cases c : j < 4
  · exact n7 j c
  · rw [sp_hN_i, sp_hN_i]
    have b : Nat.blt j 4 = false := by
      cases q : Nat.blt j 4
      · rfl
      · exact absurd (Nat.blt_eq.mp q) c
    have o1 : sp_ok (.inl 72) j = false := by
      unfold sp_ok
      rw [show (mx_lo (.inl 72)).2 = 4 from rfl, b, Bool.false_and, Bool.and_false]
    have o2 : sp_ok (.inl 149) j = false := by
      unfold sp_ok
      rw [show (mx_lo (.inl 149)).2 = 4 from rfl, b, Bool.false_and, Bool.and_false]
    rw [o1, o2, cond_false, cond_false]
