/-! ===== what the methods do: leaves ===== -/
theorem sp_vin {i : Int32} {n : Nat} (h0 : 0 ≤ i) (h1 : i.toNatClampNeg < n) : vp_in i n := fun h => h.elim (fun h => absurd h0 (Int32.not_le.mpr h)) (fun h => absurd h1 (Nat.not_lt.mpr h))
section SPA
variable {E : mx_Ev} {d : Nat} {h : mx_H} {Q : Option mx_V → mx_H → Prop}
/-- PlatesSing.within -/
theorem sp_within {a0 a1 a2 : Int32} (hQ : Q (some (.inl (.int (if a1 ≤ a0 ∧ a0 ≤ a2 then 1 else 0)))) h) : mx_C E (mx_fn true) d 157 [.inl (.int a0), .inl (.int a1), .inl (.int a2)] h Q := by
  refine sg157_0 ⟨fun h1 => ⟨Or.inl rfl, ?_⟩, fun h1 => ⟨fun h2 => ⟨Or.inl rfl, ?_⟩, fun h2 => ⟨Or.inr rfl, ?_⟩⟩⟩
  · rw [if_neg (fun q => absurd h1 (Int32.not_lt.mpr q.1))] at hQ
    exact hQ
  · rw [if_neg (fun q => absurd h2 (Int32.not_lt.mpr q.2))] at hQ
    exact hQ
  · rw [if_pos ⟨Int32.not_lt.mp h1, Int32.not_lt.mp h2⟩] at hQ
    exact hQ
end SPA
