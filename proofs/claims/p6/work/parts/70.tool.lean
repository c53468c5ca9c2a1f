/-! ===== ints as numbers; cells read behind stores ===== -/
abbrev rD (h : mx_H) (a : mx_A) (i : Nat) : Int := (h.2.1 a i).toInt
theorem rI (h : mx_H) (a : mx_A) (i : Nat) (v : Int32) (b : mx_A) (j : Nat) : (mx_uI h a i v).2.1 b j = if b = a ∧ j = i then v else h.2.1 b j := rfl
section RT
variable {h : mx_H} {a b : mx_A} {i j : Nat} {v x y : Int32} {p q : Int} {k m : Nat}
theorem rI_s : (mx_uI h a i v).2.1 a i = v := if_pos ⟨rfl, rfl⟩
theorem rI_a (e : b ≠ a) : (mx_uI h a i v).2.1 b j = h.2.1 b j := if_neg (fun q => e q.1)
theorem rI_i (e : j ≠ i) : (mx_uI h a i v).2.1 b j = h.2.1 b j := if_neg (fun q => e q.2)
theorem rI_c (e1 : b = a) (e2 : j = i) : (mx_uI h a i v).2.1 b j = v := if_pos ⟨e1, e2⟩
theorem i_le (hx : x.toInt = p) (hy : y.toInt = q) (e : p ≤ q) : x ≤ y := Int32.le_iff_toInt_le.mpr (by omega)
theorem i_lt (hx : x.toInt = p) (hy : y.toInt = q) (e : p < q) : x < y := Int32.lt_iff_toInt_lt.mpr (by omega)
theorem i_nle (hx : x.toInt = p) (hy : y.toInt = q) (e : q < p) : ¬ x ≤ y := fun c => by
  have := Int32.le_iff_toInt_le.mp c
  omega
theorem i_nlt (hx : x.toInt = p) (hy : y.toInt = q) (e : q ≤ p) : ¬ x < y := fun c => by
  have := Int32.lt_iff_toInt_lt.mp c
  omega
theorem i_eq (hx : x.toInt = p) (hy : y.toInt = q) (e : p = q) : x = y := Int32.toInt_inj.mp (by omega)
theorem i_ne (hx : x.toInt = p) (hy : y.toInt = q) (e : p ≠ q) : ¬ x = y := fun c => by
  subst c
  omega
theorem i_cl (hx : x.toInt = (k : Int)) : x.toNatClampNeg = k := by
  show x.toInt.toNat = k
  omega
theorem i_b (x : Int32) : -2147483648 ≤ x.toInt ∧ x.toInt ≤ 2147483647 := ⟨Int32.le_toInt x, Int32.toInt_le x⟩
theorem i_add (hx : x.toInt = p) (hy : y.toInt = q) (h1 : -2147483648 ≤ p + q) (h2 : p + q ≤ 2147483647) : (x + y).toInt = p + q := by
  rw [Int32.toInt_add, hx, hy]
  exact iv_bm h1 h2
theorem i_sub (hx : x.toInt = p) (hy : y.toInt = q) (h1 : -2147483648 ≤ p - q) (h2 : p - q ≤ 2147483647) : (x - y).toInt = p - q := by
  rw [Int32.toInt_sub, hx, hy]
  exact iv_bm h1 h2
theorem i_mul (hx : x.toInt = p) (hy : y.toInt = q) (h1 : -2147483648 ≤ p * q) (h2 : p * q ≤ 2147483647) : (x * y).toInt = p * q := by
  rw [Int32.toInt_mul, hx, hy]
  exact iv_bm h1 h2
theorem i_n (hk : k < 2147483648) : (nI k).toInt = k := nI_toInt hk
theorem i_nI (hx : x.toInt = (k : Int)) : x = nI k := by
  have := i_b x
  exact i_eq hx (nI_toInt (by omega)) rfl
end RT
theorem k_0 : (0 : Int32).toInt = 0 := rfl
theorem k_1 : (1 : Int32).toInt = 1 := rfl
theorem k_2 : (2 : Int32).toInt = 2 := rfl
theorem k_3 : (3 : Int32).toInt = 3 := rfl
theorem k_4 : (4 : Int32).toInt = 4 := rfl
theorem k_5 : (5 : Int32).toInt = 5 := rfl
theorem k_6 : (6 : Int32).toInt = 6 := rfl
theorem k_9 : (9 : Int32).toInt = 9 := rfl
theorem k_10 : (10 : Int32).toInt = 10 := rfl
theorem k_12 : (12 : Int32).toInt = 12 := rfl
theorem k_15 : (15 : Int32).toInt = 15 := rfl
theorem k_36 : (36 : Int32).toInt = 36 := rfl
theorem k_48 : (48 : Int32).toInt = 48 := rfl
theorem k_49 : (49 : Int32).toInt = 49 := rfl
theorem k_57 : (57 : Int32).toInt = 57 := rfl
theorem k_59 : (59 : Int32).toInt = 59 := rfl
theorem k_97 : (97 : Int32).toInt = 97 := rfl
theorem k_99 : (99 : Int32).toInt = 99 := rfl
theorem k_104 : (104 : Int32).toInt = 104 := rfl
theorem k_112 : (112 : Int32).toInt = 112 := rfl
theorem k_115 : (115 : Int32).toInt = 115 := rfl
theorem k_119 : (119 : Int32).toInt = 119 := rfl
theorem k_120 : (120 : Int32).toInt = 120 := rfl
theorem k_200 : (200 : Int32).toInt = 200 := rfl
theorem k_m1 : (-1 : Int32).toInt = -1 := rfl
theorem k_m2 : (-2 : Int32).toInt = -2 := rfl
theorem k_m3 : (-3 : Int32).toInt = -3 := rfl
/-- within, in -/
theorem w157 {x a b : Int32} : f157 x a b = if a.toInt ≤ x.toInt ∧ x.toInt ≤ b.toInt then 1 else 0 := by
  rw [f157_eq]
  by_cases c1 : x < a
  · have := Int32.lt_iff_toInt_lt.mp c1
    rw [if_pos c1, if_neg (by omega)]
  · have q1 : a.toInt ≤ x.toInt := Int.not_lt.mp (fun q => c1 (Int32.lt_iff_toInt_lt.mpr q))
    rw [if_neg c1]
    by_cases c2 : b < x
    · have := Int32.lt_iff_toInt_lt.mp c2
      rw [if_pos c2, if_neg (by omega)]
    · have q2 : x.toInt ≤ b.toInt := Int.not_lt.mp (fun q => c2 (Int32.lt_iff_toInt_lt.mpr q))
      rw [if_neg c2, if_pos (by omega)]
theorem w173 {x a b : Int32} : f173 x a b = if a.toInt ≤ x.toInt ∧ x.toInt ≤ b.toInt then 1 else 0 := by
  rw [f173_eq, ← f157_eq]
  exact w157
theorem w157_1 {x a b : Int32} {p q r : Int} (hx : x.toInt = p) (ha : a.toInt = q) (hb : b.toInt = r) (e : q ≤ p ∧ p ≤ r) : f157 x a b = 1 := by
  rw [w157, if_pos (by omega)]
theorem w157_0 {x a b : Int32} {p q r : Int} (hx : x.toInt = p) (ha : a.toInt = q) (hb : b.toInt = r) (e : ¬ (q ≤ p ∧ p ≤ r)) : f157 x a b = 0 := by
  rw [w157, if_neg (by omega)]
theorem w173_1 {x a b : Int32} {p q r : Int} (hx : x.toInt = p) (ha : a.toInt = q) (hb : b.toInt = r) (e : q ≤ p ∧ p ≤ r) : f173 x a b = 1 := by
  rw [w173, if_pos (by omega)]
theorem w173_0 {x a b : Int32} {p q r : Int} (hx : x.toInt = p) (ha : a.toInt = q) (hb : b.toInt = r) (e : ¬ (q ≤ p ∧ p ≤ r)) : f173 x a b = 0 := by
  rw [w173, if_neg (by omega)]
theorem n10 : ¬ (1 : Int32) = 0 := by decide
theorem e00 : (0 : Int32) = 0 := rfl
/-- places -/
theorem w179 {x y z : Int32} {s a b : Nat} (hx : x.toInt = (s : Int)) (hy : y.toInt = (a : Int)) (hz : z.toInt = (b : Int)) (hs : s ≤ 12) (ha : a < 6) (hb : b < 6) : (f179 x y z).toInt = ((36 * s + 6 * a + b : Nat) : Int) := by
  rw [f179_eq]
  have e1 := i_mul k_36 hx (by omega) (by omega)
  have e2 := i_mul k_6 hy (by omega) (by omega)
  have e3 := i_add e1 e2 (by omega) (by omega)
  have e4 := i_add e3 hz (by omega) (by omega)
  rw [e4]
  omega
theorem w6 {x y : Int32} {s a : Nat} (hx : x.toInt = (s : Int)) (hy : y.toInt = (a : Int)) (hs : s ≤ 12) (ha : a < 6) : (6 * x + y).toInt = ((6 * s + a : Nat) : Int) := by
  have e1 := i_mul k_6 hx (by omega) (by omega)
  have e2 := i_add e1 hy (by omega) (by omega)
  rw [e2]
  omega
