/-! ===== 84x1: what is never negative, by moments ===== -/
section MX1
variable {M P b f g u x y x' y' : Nat → Int} {n : Nat} {B F G : Nat → Nat → Int} {a c a' c' : Int}
/-! double sums -/
def v2 (n : Nat) (F : Nat → Nat → Int) : Int := vS (fun r => vS (fun s => F r s) n) n
/-! the sums of minors of the table without its last row, and its moments -/
/-! sums over the rows -/
end MX1

