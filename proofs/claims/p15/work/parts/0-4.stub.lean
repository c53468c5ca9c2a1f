/-! stub -/
theorem mi_l : ∀ n, n < 7 → ∀ S, S < 2 ^ n → S ≠ 0 → (S.testBit (lp_low S n 0) = true ∧ lp_low S n 0 < n ∧ lp_bits n (S - 2 ^ lp_low S n 0) + 1 = lp_bits n S ∧ ∀ i, i < lp_low S n 0 → S.testBit i = false) := by decide +kernel
def zc (e : Nat → Int64) : Nat → Nat × Bool
  | 0 => (0, false)
  | k + 1 => if e (k + 1) = 0 then zc e k else if decide (e (k + 1) < 0) = (zc e k).2 then zc e k else ((zc e k).1 + 1, !(zc e k).2)
theorem zz_0 : True := trivial
