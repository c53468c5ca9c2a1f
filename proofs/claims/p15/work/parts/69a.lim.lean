noncomputable def x_lim {α : Type} (d : α) (F : Nat → α) : α := @dite α (∃ r, ∃ n, ∀ k, n ≤ k → F k = r) (Classical.propDecidable _) (fun h => Classical.choose h) (fun _ => d)
theorem x_lim_eq {α : Type} {d : α} {F : Nat → α} {n : Nat} {r : α} (h : ∀ k, n ≤ k → F k = r) : x_lim d F = r := by
  have h' : ∃ r, ∃ n, ∀ k, n ≤ k → F k = r := ⟨r, n, h⟩
  have e : x_lim d F = Classical.choose h' := dif_pos h'
  obtain ⟨m, hm⟩ := Classical.choose_spec h'
  rw [e, ← hm (max n m) (Nat.le_max_right _ _)]
  exact h (max n m) (Nat.le_max_left _ _)
