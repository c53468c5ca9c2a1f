/-! ===== 84v: sign changes of a sequence that is lowered ===== -/
/-- sign changes of integers -/
def zi (e : Nat → Int) : Nat → Nat × Bool
  | 0 => (0, false)
  | k + 1 => if e (k + 1) = 0 then zi e k else if decide (e (k + 1) < 0) = (zi e k).2 then zi e k else ((zi e k).1 + 1, !(zi e k).2)
/-! two searches for the greatest p -/
