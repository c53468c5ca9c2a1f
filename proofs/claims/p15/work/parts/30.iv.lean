def sf_iv (lo hi : Int) (x : Int32) : Prop := lo ≤ x.toInt ∧ x.toInt ≤ hi
theorem iv_bm {z : Int} (h1 : -2147483648 ≤ z) (h2 : z ≤ 2147483647) : z.bmod (2 ^ 32) = z := Int.bmod_eq_of_le (by omega) (by omega)
theorem ne_oo {j j2 o o2 : Nat} (h : o ≠ o2) : (.inr (j, o) : mx_A) ≠ .inr (j2, o2) := fun e => h (congrArg Prod.snd (Sum.inr.inj e))
