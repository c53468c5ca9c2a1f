/-! ===== answers, exactly, of the calls that nothing else touches ===== -/
theorem li_nw {x l u : Int32} {X L U : Int} (g : ¬ (l ≤ x ∧ x ≤ u)) (ex : x.toInt = X) (el : l.toInt = L) (eu : u.toInt = U) : ¬ (L ≤ X ∧ X ≤ U) := by
  rw [← ex, ← el, ← eu]
  exact fun q => g ⟨Int32.le_iff_toInt_le.mpr q.1, Int32.le_iff_toInt_le.mpr q.2⟩
