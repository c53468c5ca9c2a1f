/-! ===== 84x4: tables of fewer rows; no wrapping ===== -/
section MX4
variable {A A' : Nat → Nat → Int} {n r k R : Nat} {M : Nat → Nat → Int} {e : Nat → Int} {f : Nat → Int}
/-! how large the sums of minors are -/
def nb (f : Nat → Int) (j : Nat) : Nat → Nat
  | 0 => 0
  | k + 1 => (f j).natAbs + nb f (j + 1) k
end MX4

