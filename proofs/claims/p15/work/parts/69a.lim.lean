/-! ===== methods that call themselves: the limit by depth ===== -/
noncomputable def x_lim {α : Type} (d : α) (F : Nat → α) : α := @dite α (∃ r, ∃ n, ∀ k, n ≤ k → F k = r) (Classical.propDecidable _) (fun h => Classical.choose h) (fun _ => d)
theorem x_lim_eq {α : Type} {d : α} {F : Nat → α} {n : Nat} {r : α} (h : ∀ k, n ≤ k → F k = r) : x_lim d F = r := by
  have h' : ∃ r, ∃ n, ∀ k, n ≤ k → F k = r := ⟨r, n, h⟩
  have e : x_lim d F = Classical.choose h' := dif_pos h'
  obtain ⟨m, hm⟩ := Classical.choose_spec h'
  rw [e, ← hm (max n m) (Nat.le_max_right _ _)]
  exact h (max n m) (Nat.le_max_left _ _)
theorem x_lim_v {E : mx_Ev} {n mid : Nat} {av : List mx_V} {h d : mx_H} {Q : Option mx_V → mx_H → Prop} {F : Nat → mx_H} (X : ∀ k, n ≤ k → mx_M E n mid av h (fun v h' => v = none ∧ h' = F (k + 1))) (hK : xK_v Q (x_lim d F)) : mx_M E n mid av h Q := fun f hf v h' e => by
  obtain ⟨e1, e2⟩ := X n (Nat.le_refl n) f hf v h' e
  have L : ∀ k, n + 1 ≤ k → F k = F (n + 1) := fun k hk => by
    obtain ⟨k', rfl⟩ : ∃ k', k = k' + 1 := ⟨k - 1, by omega⟩
    obtain ⟨-, e4⟩ := X k' (by omega) f hf v h' e
    exact e4.symm.trans e2
  rw [x_lim_eq L] at hK
  rw [e1, e2]
  exact hK
theorem x_lim_l {E : mx_Ev} {n mid : Nat} {av : List mx_V} {h : mx_H} {d : Int64 × mx_H} {Q : Option mx_V → mx_H → Prop} {F : Nat → Int64 × mx_H} (X : ∀ k, n ≤ k → mx_M E n mid av h (fun v h' => v = some (.inl (.long (F (k + 1)).1)) ∧ h' = (F (k + 1)).2)) (hK : xK_l Q (x_lim d F)) : mx_M E n mid av h Q := fun f hf v h' e => by
  obtain ⟨e1, e2⟩ := X n (Nat.le_refl n) f hf v h' e
  have L : ∀ k, n + 1 ≤ k → F k = F (n + 1) := fun k hk => by
    obtain ⟨k', rfl⟩ : ∃ k', k = k' + 1 := ⟨k - 1, by omega⟩
    obtain ⟨e3, e4⟩ := X k' (by omega) f hf v h' e
    rw [e1] at e3
    refine Prod.ext ?_ (e4.symm.trans e2)
    injection e3 with e3
    injection e3 with e3
    injection e3 with e3
    exact e3.symm
  rw [x_lim_eq L] at hK
  rw [e1, e2]
  exact hK
