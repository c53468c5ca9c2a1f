/-! ===== what the methods do: leaves (a spec hands its answer to Q; the heap stays where nothing is said) ===== -/
theorem sp_vin {i : Int32} {n : Nat} (h0 : 0 ≤ i) (h1 : i.toNatClampNeg < n) : vp_in i n := fun h => h.elim (fun h => absurd h0 (Int32.not_le.mpr h)) (fun h => absurd h1 (Nat.not_lt.mpr h))
theorem sp_01 {p : Prop} [Decidable p] : (if p then (1 : Int32) else 0) = 0 ∨ (if p then (1 : Int32) else 0) = 1 := by
  by_cases h : p
  · exact Or.inr (if_pos h)
  · exact Or.inl (if_neg h)
theorem sp_b0 {p : Prop} [Decidable p] (h : (if p then (1 : Int32) else 0) = 0) : ¬ p := fun q => by
  rw [if_pos q] at h
  exact absurd h (by decide)
theorem sp_b1 {p : Prop} [Decidable p] (h : ¬ (if p then (1 : Int32) else 0) = 0) : p := Classical.byContradiction fun q => h (if_neg q)
section SPA
variable {E : mx_Ev} {d : Nat} {h : mx_H} {Q : Option mx_V → mx_H → Prop}
/-- PlatesSing.within -/
theorem sp_within {a0 a1 a2 : Int32} (hQ : Q (some (.inl (.int (if a1 ≤ a0 ∧ a0 ≤ a2 then 1 else 0)))) h) : mx_C E (mx_fn true) d 157 [.inl (.int a0), .inl (.int a1), .inl (.int a2)] h Q := by
  refine sg157_0 ⟨fun h1 => ⟨Or.inl rfl, ?_⟩, fun h1 => ⟨fun h2 => ⟨Or.inl rfl, ?_⟩, fun h2 => ⟨Or.inr rfl, ?_⟩⟩⟩
  · rw [if_neg (fun q => absurd h1 (Int32.not_lt.mpr q.1))] at hQ
    exact hQ
  · rw [if_neg (fun q => absurd h2 (Int32.not_lt.mpr q.2))] at hQ
    exact hQ
  · rw [if_pos ⟨Int32.not_lt.mp h1, Int32.not_lt.mp h2⟩] at hQ
    exact hQ
/-- the reference's in -/
theorem sp_in {a0 a1 a2 : Int32} (hQ : Q (some (.inl (.int (if a1 ≤ a0 ∧ a0 ≤ a2 then 1 else 0)))) h) : mx_C E (mx_fn true) d 173 [.inl (.int a0), .inl (.int a1), .inl (.int a2)] h Q := by
  refine sg173_0 ⟨fun h1 => ⟨Or.inl rfl, ?_⟩, fun h1 => ⟨fun h2 => ⟨Or.inl rfl, ?_⟩, fun h2 => ⟨Or.inr rfl, ?_⟩⟩⟩
  · rw [if_neg (fun q => absurd h1 (Int32.not_lt.mpr q.1))] at hQ
    exact hQ
  · rw [if_neg (fun q => absurd h2 (Int32.not_lt.mpr q.2))] at hQ
    exact hQ
  · rw [if_pos ⟨Int32.not_lt.mp h1, Int32.not_lt.mp h2⟩] at hQ
    exact hQ
theorem sp_lesser {a0 a1 : Int32} (hQ : Q (some (.inl (.int (if a1 ≤ a0 then a1 else a0)))) h) : mx_C E (mx_fn true) d 174 [.inl (.int a0), .inl (.int a1)] h Q :=
  sg174_0 ⟨fun h1 => by rw [if_pos h1] at hQ; exact hQ, fun h1 => by rw [if_neg h1] at hQ; exact hQ⟩
theorem sp_greater {a0 a1 : Int32} (hQ : Q (some (.inl (.int (if a0 ≤ a1 then a1 else a0)))) h) : mx_C E (mx_fn true) d 175 [.inl (.int a0), .inl (.int a1)] h Q :=
  sg175_0 ⟨fun h1 => by rw [if_pos h1] at hQ; exact hQ, fun h1 => by rw [if_neg h1] at hQ; exact hQ⟩
theorem sp_sizeOf {a0 : Int32} (hQ : Q (some (.inl (.int (if 0 ≤ a0 then a0 else -a0)))) h) : mx_C E (mx_fn true) d 176 [.inl (.int a0)] h Q :=
  sg176_0 ⟨fun h1 => by rw [if_pos h1] at hQ; exact hQ, fun h1 => by rw [if_neg h1] at hQ; exact hQ⟩
theorem sp_at {a0 a1 a2 : Int32} (hQ : Q (some (.inl (.int (36 * a0 + 6 * a1 + a2)))) h) : mx_C E (mx_fn true) d 179 [.inl (.int a0), .inl (.int a1), .inl (.int a2)] h Q := sg179_0 hQ
theorem sp_massOf {a0 a1 : Int32} (hQ : Q (some (.inl (.int (if a0 + a1 ≤ 9 then a0 + a1 else 9)))) h) : mx_C E (mx_fn true) d 207 [.inl (.int a0), .inl (.int a1)] h Q :=
  sg207_0 ⟨fun h1 => by rw [if_pos h1] at hQ; exact hQ, fun h1 => by rw [if_neg h1] at hQ; exact hQ⟩
/-- isShape of the reference -/
theorem sp_isShape {a1 : Int32} (hQ : Q (some (.inl (.int (if 0 ≤ a1 ∧ a1 ≤ h.2.1 (.inl 105) 1 - 1 then 1 else 0)))) h) : mx_C E (mx_fn true) (d + 1) 177 [.inr (.inl 105), .inl (.int a1)] h Q := by
  refine sg177_0 (sp_in ?_)
  intro x hx
  cases hx
  exact ⟨sp_01, hQ⟩
/-- isCorner of the reference -/
theorem sp_isCornerM {a1 a2 : Int32} (hin : vp_in a1 13) (hQ : Q (some (.inl (.int (if 0 ≤ a2 ∧ a2 ≤ h.2.1 (.inl 106) a1.toNatClampNeg - 1 then 1 else 0)))) h) : mx_C E (mx_fn true) (d + 1) 178 [.inr (.inl 105), .inl (.int a1), .inl (.int a2)] h Q := by
  refine sg178_0 ⟨hin, sp_in ?_⟩
  intro x hx
  cases hx
  exact ⟨sp_01, hQ⟩
/-- hasPiece of the reference -/
theorem sp_hasPiece {a1 a2 a3 : Int32} (hin : vp_in (36 * a1 + 6 * a2 + a3) 468) (hQ : Q (some (.inl (.int (if h.2.1 (.inl 113) (36 * a1 + 6 * a2 + a3).toNatClampNeg ≤ 0 then 0 else 1)))) h) : mx_C E (mx_fn true) (d + 1) 180 [.inr (.inl 105), .inl (.int a1), .inl (.int a2), .inl (.int a3)] h Q := by
  refine sg180_0 (sp_at ?_)
  intro x hx
  cases hx
  refine ⟨hin, fun h1 => ⟨Or.inl rfl, ?_⟩, fun h1 => ⟨Or.inr rfl, ?_⟩⟩
  · rw [if_pos h1] at hQ
    exact hQ
  · rw [if_neg h1] at hQ
    exact hQ
/-- isCorner of the class, of a shape that is there -/
theorem sp_isCornerX {j : Nat} {a1 : Int32} (hQ : Q (some (.inl (.int (if 0 ≤ a1 ∧ a1 ≤ h.2.1 (.inr (j, 0)) 0 - 1 then 1 else 0)))) h) : mx_C E (mx_fn true) (d + 1) 164 [.inr (.inr (j, 0)), .inl (.int a1)] h Q := by
  refine sg164_0 (sp_within ?_)
  intro x hx
  cases hx
  refine ⟨fun h1 => ⟨Or.inl rfl, ?_⟩, fun h1 => ⟨Or.inr rfl, ?_⟩⟩
  · rw [if_neg (sp_b0 h1)] at hQ
    exact hQ
  · rw [if_pos (sp_b1 h1)] at hQ
    exact hQ
/-- Net.linkOf -/
theorem sp_linkOf {t : Nat} {a1 a2 : Int32} (hin : vp_in (6 * a1 + a2) 36) (hQ : Q (some (.inl (.int (h.2.1 (.inr (t, 34)) (6 * a1 + a2).toNatClampNeg)))) h) : mx_C E (mx_fn true) d 27 [.inr (.inr (t, 30)), .inl (.int a1), .inl (.int a2)] h Q := sg27_0 ⟨hin, hQ⟩
end SPA
