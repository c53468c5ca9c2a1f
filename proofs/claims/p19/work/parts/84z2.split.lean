/-! ===== 84z2: SPLIT ===== -/
section MY
variable {h g hc hr k k2 k' : mx_H} {S N C n F s t t' c b m i : Nat} {a1 a2 a3 a4 a5 a6 a7 a8 x y w : Int32} {q : Int} {f : Nat → Nat}
/-- the reference's frame: the told SHUTS too -/
def tv_F (k k' : mx_H) : Prop := ∀ a i, a ≠ .inl 134 → a ≠ .inl 136 → a ≠ .inl 137 → a ≠ .inl 138 → ¬ (a = .inl 105 ∧ (i = 37 ∨ i = 42)) → k'.2.1 a i = k.2.1 a i
theorem tv_F.refl : tv_F k k := fun _ _ _ _ _ _ _ => rfl
theorem tv_F.fu {j : Nat} {v : Int32} (A : tv_F h g) : tv_F h (mx_uI g (.inl 138) j v) := fun a i h1 h2 h3 h4 h5 => (rI_a h4).trans (A a i h1 h2 h3 h4 h5)
end MY

