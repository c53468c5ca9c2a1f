/-! ===== 84x5: BELOW never falls as p rises; a tone's SHUT on both sides ===== -/
section MX5
variable {h g k k' hc gc hr : mx_H} {C t c n a b : Nat} {a1 a2 a3 x y : Int32} {p q i : Int} {f : Nat → Int}
/-- BELOW of a net, for the mark p / q -/
def fb (k : mx_H) (C : Nat) (q : Int) (p : Nat) : Nat := (zc (ze k C (p : Int) q) (fl k C).length).1
/-- the class's side leaves its net -/
theorem cm_F.trans (A : cm_F h g t) (B : cm_F g k t) : cm_F h k t := ⟨fun a i h1 h2 => (B.1 a i h1 h2).trans (A.1 a i h1 h2), fun a i h1 => (B.2.1 a i h1).trans (A.2.1 a i h1), B.2.2.trans A.2.2⟩
/-- the reference's side -/
def tw_F (k k' : mx_H) : Prop := ∀ a i, a ≠ .inl 134 → a ≠ .inl 136 → a ≠ .inl 137 → ¬ (a = .inl 105 ∧ (i = 37 ∨ i = 42)) → k'.2.1 a i = k.2.1 a i
theorem tw_F.refl : tw_F k k := fun _ _ _ _ _ _ => rfl
theorem tw_F.trans (A : tw_F h g) (B : tw_F g k) : tw_F h k := fun a i h1 h2 h3 h4 => (B a i h1 h2 h3 h4).trans (A a i h1 h2 h3 h4)
theorem tw_F.fu {j : Nat} {v : Int32} (A : tw_F h g) : tw_F h (mx_uI g (.inl 137) j v) := fun a i h1 h2 h3 h4 => (rI_a h3).trans (A a i h1 h2 h3 h4)
end MX5

