/-! ===== 84t: the relation with the stamp ===== -/
def rt_QG (b : Nat) (h : mx_H) : Prop := rt_Q h ∧ mi_S h b
section P84t
variable {E : mx_Ev} {d n m b c : Nat} {av : List mx_V} {h h' k0 : mx_H} {Q : Option mx_V → mx_H → Prop} {M : mx_H → Prop}
theorem rt_Zf (b7 : m.testBit 266 = false) (b8 : m.testBit 348 = false) (e : sf_El m h h') (S : mi_S h b) : mi_S h' b := mi_Sf (fun i => e 136 i b8) (e 105 42 b7) S
theorem rt_QGu (R : rt_QG b h) : rt_QG (b + 300000) h := ⟨R.1, R.2.up (by omega)⟩
theorem rt_QGf (b1 : m &&& rt_Mc = 0) (b2 : m &&& rt_Mr = 0) (b5 : m &&& rt_Ms = 0) (b6 : m &&& rt_Ml = 0) (b3 : m.testBit 171 = false) (b4 : m.testBit 303 = false) (b7 : m.testBit 266 = false) (b8 : m.testBit 348 = false) (e : sf_E m h h') (R : rt_QG b h) : rt_QG b h' := ⟨rt_Qf b1 b2 b5 b6 b3 b4 e R.1, rt_Zf b7 b8 e.l R.2⟩
/-- a call that turns the stamp on: what its runs keep -/
theorem rt_Gi (hc : c < 2147483647) (T : mx_C E (mx_fn true) d n av h (fun v h' => ∃ x, v = some (.inl (.int x)) ∧ sf_I h' ∧ M h')) (G : ∀ k, mx_M E k n av h (fun _ h' => GS k0 c h')) : mx_C E (mx_fn true) d n av h (fun v h' => ∃ x, v = some (.inl (.int x)) ∧ sf_I h' ∧ M h' ∧ mi_S h' c) :=
  (T.and G).mono (fun v h' q => by
    obtain ⟨⟨x, e, I, m⟩, g⟩ := q
    exact ⟨x, e, I, m, g.2.2 hc⟩)
theorem rt_Gki (hc : c < 2147483647) (T : mx_C E (mx_fn true) d n av h (fun v h' => ∃ x, v = some (.inl (.int x)) ∧ sf_I h' ∧ M h')) (G : ∀ k, mx_M E k n av h (fun _ h' => GS k0 c h')) (K : ∀ x h', sf_I h' → M h' → mi_S h' c → Q (some (.inl (.int x))) h') : mx_C E (mx_fn true) d n av h Q :=
  (T.and G).mono (fun v h' q => by
    obtain ⟨⟨x, e, I, m⟩, g⟩ := q
    rw [e]
    exact K x h' I m (g.2.2 hc))
theorem rt_Gkl (hc : c < 2147483647) (T : mx_C E (mx_fn true) d n av h (fun v h' => ∃ x, v = some (.inl (.long x)) ∧ sf_I h' ∧ M h')) (G : ∀ k, mx_M E k n av h (fun _ h' => GS k0 c h')) (K : ∀ x h', sf_I h' → M h' → mi_S h' c → Q (some (.inl (.long x))) h') : mx_C E (mx_fn true) d n av h Q :=
  (T.and G).mono (fun v h' q => by
    obtain ⟨⟨x, e, I, m⟩, g⟩ := q
    rw [e]
    exact K x h' I m (g.2.2 hc))
set_option maxRecDepth 1000000 in
theorem rt_G00 : ∀ i, i < 2048 → sp_h0.2.1 (.inl 136) i = 0 := by decide +kernel
set_option maxRecDepth 1000000 in
theorem rt_G01 : ∀ i, i < 2048 → sp_h0.2.1 (.inl 136) (2048 + i) = 0 := by decide +kernel
set_option maxRecDepth 1000000 in
theorem rt_G02 : sp_hN.2.1 (.inl 105) 42 = 0 := by decide +kernel
theorem rt_G03 (i : Nat) : sp_hN.2.1 (.inl 136) i = 0 := by
  rw [sp_hN_i]
  by_cases h1 : i < 2048
  · rw [rt_G00 i h1]
    cases sp_ok (.inl 136) i <;> rfl
  · by_cases h2 : i < 4096
    · have := rt_G01 (i - 2048) (by omega)
      rw [show 2048 + (i - 2048) = i by omega] at this
      rw [this]
      cases sp_ok (.inl 136) i <;> rfl
    · have q : Nat.blt i 4096 = false := by
        cases q : Nat.blt i 4096 with
        | false => rfl
        | true => exact absurd (Nat.le_of_ble_eq_true q) (by omega)
      have no : sp_ok (.inl 136) i = false := by
        unfold sp_ok
        rw [show (mx_lo (.inl 136)).2 = 4096 from rfl, q, Bool.false_and, Bool.and_false]
      rw [no]
      rfl
theorem rt_QG0 : rt_QG (300000 * 0) sp_hN := by
  refine ⟨rt_Q0, ?_⟩
  have e : rD sp_hN (.inl 105) 42 = 0 := congrArg Int32.toInt rt_G02
  refine ⟨⟨by rw [e]; exact Int.le_refl _, by rw [e]; exact Int.le_refl _⟩, fun i => ?_⟩
  have e2 : rD sp_hN (.inl 136) i = 0 := congrArg Int32.toInt (rt_G03 i)
  rw [e, e2]
  exact Int.le_refl _
end P84t

