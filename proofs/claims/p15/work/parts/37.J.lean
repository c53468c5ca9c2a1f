theorem sf_ir {j j' o o' : Nat} (q : (Sum.inr (j, o) : mx_A) = .inr (j', o')) : j = j' ∧ o = o' := by
  injection q with t
  injection t with t1 t2
  exact ⟨t1, t2⟩
