/-! ===== 84x3: sign changes never fall as diagonal entries are lowered ===== -/
section MX3
variable {A A' : Nat → Nat → Int} {x y u : Nat → Int} {n r k : Nat} {B B' M M' : Nat → Nat → Int} {d : Int} {e e' : Nat → Int} {ρ : Nat → Int} {σ : Nat → Nat}
/-! tables that are alike -/
/-! the last entry is lowered -/
def zn (A : Nat → Nat → Int) : Nat := (zi (zE (zB A) 6) 6).1
/-! the order of rows does not matter -/
end MX3

