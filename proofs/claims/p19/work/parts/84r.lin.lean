/-! ===== sums, symmetric tables, what is never negative ===== -/
section LN
variable {f g x y u : Nat → Int} {B : Nat → Nat → Int} {n m r : Nat} {c : Int}
def vS (f : Nat → Int) : Nat → Int
  | 0 => 0
  | n + 1 => vS f n + f n
/-- products of vectors; tables on vectors -/
def vD (n : Nat) (x y : Nat → Int) : Int := vS (fun i => x i * y i) n
/-- their products, by moments -/
def q1 (M : Nat → Int) : List Int → Nat → Int
  | [], _ => 0
  | d :: ds, m => d * M m + q1 M ds (m + 1)
def v3 (n : Nat) (F : Nat → Nat → Nat → Int) : Int := vS (fun j => vS (fun i => vS (fun r => F j i r) n) n) n
end LN

