/-! ===== intervals of ints ===== -/
def sf_iv (lo hi : Int) (x : Int32) : Prop := lo ≤ x.toInt ∧ x.toInt ≤ hi
theorem iv_rng (x : Int32) : sf_iv (-2147483648) 2147483647 x := ⟨Int32.le_toInt x, Int32.toInt_le x⟩
theorem iv_bm {z : Int} (h1 : -2147483648 ≤ z) (h2 : z ≤ 2147483647) : z.bmod (2 ^ 32) = z := Int.bmod_eq_of_le (by omega) (by omega)
theorem iv_k {n : Int} {x : Int32} (h : x.toInt = n) : sf_iv n n x := ⟨Int.le_of_eq h.symm, Int.le_of_eq h⟩
theorem iv_w {a b c d : Int} {x : Int32} (h : sf_iv a b x) (hc : (decide (c ≤ a) && decide (b ≤ d)) = true) : sf_iv c d x := by
  rw [Bool.and_eq_true, decide_eq_true_eq, decide_eq_true_eq] at hc
  exact ⟨Int.le_trans hc.1 h.1, Int.le_trans h.2 hc.2⟩
def iv_cb (a b lo hi : Int) : Bool := decide (lo ≤ a) && (decide (b ≤ hi) && (decide (-2147483648 ≤ a) && decide (b ≤ 2147483647)))
theorem iv_cb_s {a b lo hi : Int} (h : iv_cb a b lo hi = true) : lo ≤ a ∧ b ≤ hi ∧ -2147483648 ≤ a ∧ b ≤ 2147483647 := by
  simpa [iv_cb] using h
theorem iv_add {a b c d lo hi : Int} {x y : Int32} (hx : sf_iv a b x) (hy : sf_iv c d y) (hc : iv_cb (a + c) (b + d) lo hi = true) : sf_iv lo hi (x + y) := by
  obtain ⟨h1, h2, h3, h4⟩ := iv_cb_s hc
  obtain ⟨x1, x2⟩ := hx
  obtain ⟨y1, y2⟩ := hy
  have e : (x + y).toInt = x.toInt + y.toInt := by rw [Int32.toInt_add, iv_bm (by omega) (by omega)]
  exact ⟨by omega, by omega⟩
theorem iv_sub {a b c d lo hi : Int} {x y : Int32} (hx : sf_iv a b x) (hy : sf_iv c d y) (hc : iv_cb (a - d) (b - c) lo hi = true) : sf_iv lo hi (x - y) := by
  obtain ⟨h1, h2, h3, h4⟩ := iv_cb_s hc
  obtain ⟨x1, x2⟩ := hx
  obtain ⟨y1, y2⟩ := hy
  have e : (x - y).toInt = x.toInt - y.toInt := by rw [Int32.toInt_sub, iv_bm (by omega) (by omega)]
  exact ⟨by omega, by omega⟩
/-- a product of a number that isn't below 0 -/
theorem iv_mul {b d lo hi : Int} {x y : Int32} (hx : sf_iv 0 b x) (hy : sf_iv 0 d y) (hc : iv_cb 0 (b * d) lo hi = true) : sf_iv lo hi (x * y) := by
  obtain ⟨h1, h2, h3, h4⟩ := iv_cb_s hc
  obtain ⟨x1, x2⟩ := hx
  obtain ⟨y1, y2⟩ := hy
  have p0 : 0 ≤ x.toInt * y.toInt := Int.mul_nonneg x1 y1
  have p1 : x.toInt * y.toInt ≤ b * d := Int.mul_le_mul x2 y2 y1 (Int.le_trans x1 x2)
  have e : (x * y).toInt = x.toInt * y.toInt := by rw [Int32.toInt_mul, iv_bm (by omega) (by omega)]
  exact ⟨by omega, by omega⟩
theorem iv_neg {a b lo hi : Int} {x : Int32} (hx : sf_iv a b x) (hc : iv_cb (-b) (-a) lo hi = true) : sf_iv lo hi (-x) := by
  obtain ⟨h1, h2, h3, h4⟩ := iv_cb_s hc
  obtain ⟨x1, x2⟩ := hx
  have e : (-x).toInt = -x.toInt := by rw [Int32.toInt_neg, iv_bm (by omega) (by omega)]
  exact ⟨by omega, by omega⟩
/-- a quotient of a number that isn't below 0 by one above 0 -/
theorem iv_div {a b k lo hi : Int} {x y : Int32} (hx : sf_iv a b x) (hy : sf_iv k k y) (hc : (decide (0 ≤ a) && (decide (0 < k) && (decide (lo ≤ a / k) && decide (b / k ≤ hi)))) = true) : sf_iv lo hi (x / y) := by
  simp only [Bool.and_eq_true, decide_eq_true_eq] at hc
  obtain ⟨h1, h2, h3, h4⟩ := hc
  obtain ⟨x1, x2⟩ := hx
  obtain ⟨y1, y2⟩ := hy
  have ey : y.toInt = k := by omega
  have r := (iv_rng x).2
  have q0 : 0 ≤ x.toInt / k := Int.ediv_nonneg (by omega) (by omega)
  have q1 : x.toInt / k ≤ x.toInt := Int.ediv_le_self _ (by omega)
  have e : (x / y).toInt = x.toInt / k := by rw [Int32.toInt_div, ey, Int.tdiv_eq_ediv_of_nonneg (by omega), iv_bm (by omega) (by omega)]
  have m1 : a / k ≤ x.toInt / k := Int.ediv_le_ediv h2 x1
  have m2 : x.toInt / k ≤ b / k := Int.ediv_le_ediv h2 x2
  exact ⟨by omega, by omega⟩
/-- a rest of a number that isn't below 0 -/
theorem iv_rem {a b k lo hi : Int} {x y : Int32} (hx : sf_iv a b x) (hy : sf_iv k k y) (hc : (decide (0 ≤ a) && (decide (0 < k) && (decide (lo ≤ 0) && decide (k - 1 ≤ hi)))) = true) : sf_iv lo hi (x - x / y * y) := by
  simp only [Bool.and_eq_true, decide_eq_true_eq] at hc
  obtain ⟨h1, h2, h3, h4⟩ := hc
  obtain ⟨x1, x2⟩ := hx
  obtain ⟨y1, y2⟩ := hy
  have ey : y.toInt = k := by omega
  have r := (iv_rng x).2
  have ry := (iv_rng y).2
  have q0 : 0 ≤ x.toInt / k := Int.ediv_nonneg (by omega) (by omega)
  have q1 : x.toInt / k ≤ x.toInt := Int.ediv_le_self _ (by omega)
  have e : (x / y).toInt = x.toInt / k := by rw [Int32.toInt_div, ey, Int.tdiv_eq_ediv_of_nonneg (by omega), iv_bm (by omega) (by omega)]
  have p0 : 0 ≤ x.toInt / k * k := Int.mul_nonneg q0 (by omega)
  have p1 : x.toInt / k * k ≤ x.toInt := Int.ediv_mul_le _ (by omega)
  have e2 : (x / y * y).toInt = x.toInt / k * k := by rw [Int32.toInt_mul, e, ey, iv_bm (by omega) (by omega)]
  have e3 : (x - x / y * y).toInt = x.toInt - x.toInt / k * k := by rw [Int32.toInt_sub, e2, iv_bm (by omega) (by omega)]
  have m : x.toInt - x.toInt / k * k = x.toInt % k := by
    have := Int.mul_ediv_add_emod x.toInt k
    rw [Int.mul_comm] at this
    omega
  have m0 := Int.emod_nonneg x.toInt (show k ≠ 0 by omega)
  have m1 := Int.emod_lt_of_pos x.toInt h2
  exact ⟨by omega, by omega⟩
theorem iv_ite {a b c d lo hi : Int} {p : Prop} [Decidable p] {x y : Int32} (hx : p → sf_iv a b x) (hy : ¬ p → sf_iv c d y) (hc : (decide (lo ≤ a) && (decide (b ≤ hi) && (decide (lo ≤ c) && decide (d ≤ hi)))) = true) : sf_iv lo hi (if p then x else y) := by
  simp only [Bool.and_eq_true, decide_eq_true_eq] at hc
  obtain ⟨h1, h2, h3, h4⟩ := hc
  by_cases hp : p
  · rw [if_pos hp]
    exact ⟨Int.le_trans h1 (hx hp).1, Int.le_trans (hx hp).2 h2⟩
  · rw [if_neg hp]
    exact ⟨Int.le_trans h3 (hy hp).1, Int.le_trans (hy hp).2 h4⟩
/-! what a comparison tells -/
theorem iv_ltl {a b c d : Int} {x y : Int32} (g : x < y) (hx : sf_iv a b x) (hy : sf_iv c d y) : sf_iv a (min b (d - 1)) x := by
  have := Int32.lt_iff_toInt_lt.mp g
  obtain ⟨x1, x2⟩ := hx
  obtain ⟨y1, y2⟩ := hy
  exact ⟨x1, by omega⟩
theorem iv_ltr {a b c d : Int} {x y : Int32} (g : x < y) (hx : sf_iv a b x) (hy : sf_iv c d y) : sf_iv (max c (a + 1)) d y := by
  have := Int32.lt_iff_toInt_lt.mp g
  obtain ⟨x1, x2⟩ := hx
  obtain ⟨y1, y2⟩ := hy
  exact ⟨by omega, y2⟩
theorem iv_lel {a b c d : Int} {x y : Int32} (g : x ≤ y) (hx : sf_iv a b x) (hy : sf_iv c d y) : sf_iv a (min b d) x := by
  have := Int32.le_iff_toInt_le.mp g
  obtain ⟨x1, x2⟩ := hx
  obtain ⟨y1, y2⟩ := hy
  exact ⟨x1, by omega⟩
theorem iv_ler {a b c d : Int} {x y : Int32} (g : x ≤ y) (hx : sf_iv a b x) (hy : sf_iv c d y) : sf_iv (max c a) d y := by
  have := Int32.le_iff_toInt_le.mp g
  obtain ⟨x1, x2⟩ := hx
  obtain ⟨y1, y2⟩ := hy
  exact ⟨by omega, y2⟩
theorem iv_eql {a b c d : Int} {x y : Int32} (g : x = y) (hx : sf_iv a b x) (hy : sf_iv c d y) : sf_iv (max a c) (min b d) x := by
  subst g
  obtain ⟨x1, x2⟩ := hx
  obtain ⟨y1, y2⟩ := hy
  exact ⟨by omega, by omega⟩
/-- not the lowest, not the greatest -/
theorem iv_nel {a b k : Int} {x y : Int32} (g : ¬ x = y) (hx : sf_iv a b x) (hy : sf_iv k k y) : sf_iv (if a = k then a + 1 else a) (if b = k then b - 1 else b) x := by
  have g2 : x.toInt ≠ y.toInt := fun e => g (Int32.toInt_inj.mp e)
  obtain ⟨x1, x2⟩ := hx
  obtain ⟨y1, y2⟩ := hy
  exact ⟨by split <;> omega, by split <;> omega⟩
theorem iv_no {a b : Int} {x : Int32} (h : sf_iv a b x) (hc : decide (b < a) = true) : False := by
  rw [decide_eq_true_eq] at hc
  obtain ⟨x1, x2⟩ := h
  omega
theorem iv_in {a b : Int} {n : Nat} {x : Int32} (h : sf_iv a b x) (hc : (decide (0 ≤ a) && decide (b < n)) = true) : vp_in x n := by
  simp only [Bool.and_eq_true, decide_eq_true_eq] at hc
  obtain ⟨x1, x2⟩ := h
  refine sp_vin (Int32.le_iff_toInt_le.mpr ?_) ?_
  · show (0 : Int32).toInt ≤ _
    rw [show (0 : Int32).toInt = 0 from rfl]
    omega
  · show x.toInt.toNat < n
    omega
theorem iv_clamp {a b : Int} {n : Nat} {x : Int32} (h : sf_iv a b x) (hc : (decide (0 ≤ a) && decide (b < n)) = true) : x.toNatClampNeg < n := by
  simp only [Bool.and_eq_true, decide_eq_true_eq] at hc
  obtain ⟨x1, x2⟩ := h
  show x.toInt.toNat < n
  omega
theorem iv_ne0 {a b : Int} {x : Int32} (h : sf_iv a b x) (hc : (decide (0 < a) || decide (b < 0)) = true) : ¬ x = 0 := by
  simp only [Bool.or_eq_true, decide_eq_true_eq] at hc
  obtain ⟨x1, x2⟩ := h
  rintro rfl
  rw [show (0 : Int32).toInt = 0 from rfl] at x1 x2
  omega
theorem iv_bool {x : Int32} (h : sf_iv 0 1 x) : x = 0 ∨ x = 1 := by
  obtain ⟨x1, x2⟩ := h
  rcases (show x.toInt = 0 ∨ x.toInt = 1 by omega) with q | q
  · exact Or.inl (Int32.toInt_inj.mp q)
  · exact Or.inr (Int32.toInt_inj.mp q)
/-- a loop that counts: what is left -/
theorem iv_up {lo hi : Int} {n : Nat} {x : Int32} (hm : (2147483647 - x.toInt).toNat < n + 1) (p : sf_iv lo hi x) (hc : decide (hi < 2147483647) = true) : (2147483647 - (x + 1).toInt).toNat < n := by
  rw [decide_eq_true_eq] at hc
  have r := (iv_rng x).1
  obtain ⟨x1, x2⟩ := p
  have e : (x + 1).toInt = x.toInt + 1 := by rw [Int32.toInt_add, show (1 : Int32).toInt = 1 from rfl, iv_bm (by omega) (by omega)]
  rw [e]
  omega
theorem iv_dn {lo hi : Int} {n : Nat} {x : Int32} (hm : (x.toInt + 2147483648).toNat < n + 1) (p : sf_iv lo hi x) (hc : decide (-2147483648 < lo) = true) : ((x + (-1)).toInt + 2147483648).toNat < n := by
  rw [decide_eq_true_eq] at hc
  have r := (iv_rng x).2
  obtain ⟨x1, x2⟩ := p
  have e : (x + (-1)).toInt = x.toInt + (-1) := by rw [Int32.toInt_add, show (-1 : Int32).toInt = -1 from rfl, iv_bm (by omega) (by omega)]
  rw [e]
  omega
theorem iv_ua {a b lo hi l h k : Int} {u y : Int32} (pu : sf_iv a b u) (p : sf_iv l h (u + y)) (hy : y.toInt = k) (hc : (decide (-2147483648 ≤ a + k) && (decide (b + k ≤ 2147483647) && (decide (lo ≤ max a (l - k)) && decide (min b (h - k) ≤ hi)))) = true) : sf_iv lo hi u := by
  simp only [Bool.and_eq_true, decide_eq_true_eq] at hc
  obtain ⟨h1, h2, h3, h4⟩ := hc
  obtain ⟨u1, u2⟩ := pu
  obtain ⟨p1, p2⟩ := p
  have e : (u + y).toInt = u.toInt + y.toInt := by rw [Int32.toInt_add, iv_bm (by omega) (by omega)]
  exact ⟨by omega, by omega⟩
theorem iv_and {m : Int} {x y : Int32} (hy : y.toInt = m) (hm : decide (0 ≤ m) = true) : sf_iv 0 m (x &&& y) := by
  rw [decide_eq_true_eq] at hm
  have e1 : (x &&& y).toBitVec.toNat ≤ y.toBitVec.toNat := by
    rw [Int32.toBitVec_and, BitVec.toNat_and]
    exact Nat.and_le_right
  have ey : y.toInt = (y.toBitVec.toNat : Int) := by
    have h0 : y.toInt = y.toBitVec.toInt := rfl
    rw [h0, BitVec.toInt_eq_toNat_cond] at hy
    rw [h0, BitVec.toInt_eq_toNat_cond]
    split at hy
    · rw [if_pos (by assumption)]
    · have := y.toBitVec.isLt
      omega
  have hl : 2 * y.toBitVec.toNat < 2 ^ 32 := by
    have := (iv_rng y).2
    omega
  have ex : (x &&& y).toInt = ((x &&& y).toBitVec.toNat : Int) := by
    show (x &&& y).toBitVec.toInt = _
    rw [BitVec.toInt_eq_toNat_cond, if_pos (by omega)]
  exact ⟨by omega, by omega⟩
theorem iv_max {a b c d lo hi : Int} {x y : Int32} (hx : sf_iv a b x) (hy : sf_iv c d y) (hc : (decide (lo ≤ max a c) && decide (max b d ≤ hi)) = true) : sf_iv lo hi (if x < y then y else x) := by
  simp only [Bool.and_eq_true, decide_eq_true_eq] at hc
  obtain ⟨x1, x2⟩ := hx
  obtain ⟨y1, y2⟩ := hy
  split
  · next g =>
    have := Int32.lt_iff_toInt_lt.mp g
    exact ⟨by omega, by omega⟩
  · next g =>
    have := Int32.le_iff_toInt_le.mp (Int32.not_lt.mp g)
    exact ⟨by omega, by omega⟩
theorem iv_min {a b c d lo hi : Int} {x y : Int32} (hx : sf_iv a b x) (hy : sf_iv c d y) (hc : (decide (lo ≤ min a c) && decide (min b d ≤ hi)) = true) : sf_iv lo hi (if y < x then y else x) := by
  simp only [Bool.and_eq_true, decide_eq_true_eq] at hc
  obtain ⟨x1, x2⟩ := hx
  obtain ⟨y1, y2⟩ := hy
  split
  · next g =>
    have := Int32.lt_iff_toInt_lt.mp g
    exact ⟨by omega, by omega⟩
  · next g =>
    have := Int32.le_iff_toInt_le.mp (Int32.not_lt.mp g)
    exact ⟨by omega, by omega⟩
theorem iv_abs {a b lo hi : Int} {x : Int32} (hx : sf_iv a b x) (hc : (decide (-2147483648 < a) && (decide (lo ≤ 0) && (decide (b ≤ hi) && decide (-a ≤ hi)))) = true) : sf_iv lo hi (if 0 ≤ x then x else 0 - x) := by
  simp only [Bool.and_eq_true, decide_eq_true_eq] at hc
  obtain ⟨x1, x2⟩ := hx
  split
  · next g =>
    have : (0 : Int32).toInt ≤ x.toInt := Int32.le_iff_toInt_le.mp g
    rw [show (0 : Int32).toInt = 0 from rfl] at this
    exact ⟨by omega, by omega⟩
  · next g =>
    have : x.toInt < (0 : Int32).toInt := Int32.lt_iff_toInt_lt.mp (Int32.not_le.mp g)
    rw [show (0 : Int32).toInt = 0 from rfl] at this
    have e : (0 - x).toInt = 0 - x.toInt := by rw [Int32.toInt_sub, show (0 : Int32).toInt = 0 from rfl, iv_bm (by omega) (by omega)]
    exact ⟨by omega, by omega⟩
theorem iv_i2b (x : Int32) : sf_iv (-128) 127 x.toInt8.toInt32 := by
  have h1 := Int8.le_toInt x.toInt8
  have h2 := Int8.toInt_le x.toInt8
  unfold sf_iv
  rw [Int8.toInt_toInt32]
  exact ⟨h1, h2⟩
theorem iv_i2s (x : Int32) : sf_iv (-32768) 32767 x.toInt16.toInt32 := by
  have h1 := Int16.le_toInt x.toInt16
  have h2 := Int16.toInt_le x.toInt16
  unfold sf_iv
  rw [Int16.toInt_toInt32]
  exact ⟨h1, h2⟩
theorem iv_wi {a b c d e f : Int} {x l h : Int32} (hx : sf_iv a b x) (hl : sf_iv c d l) (hh : sf_iv e f h) (hc : (decide (d ≤ a) && decide (b ≤ e)) = true) : l ≤ x ∧ x ≤ h := by
  simp only [Bool.and_eq_true, decide_eq_true_eq] at hc
  obtain ⟨x1, x2⟩ := hx
  obtain ⟨l1, l2⟩ := hl
  obtain ⟨h1, h2⟩ := hh
  exact ⟨Int32.le_iff_toInt_le.mpr (by omega), Int32.le_iff_toInt_le.mpr (by omega)⟩
theorem iv_e {lo hi : Int} {x y : Int32} (e : x = y) (p : sf_iv lo hi y) : sf_iv lo hi x := e ▸ p
theorem iv_o {lo hi : Int} {H : mx_H} {a b : mx_A} {i j : Nat} {v : Int32} (hne : b ≠ a) (p : sf_iv lo hi (H.2.1 b j)) : sf_iv lo hi ((mx_uI H a i v).2.1 b j) := iv_e (sp_up_ne hne) p
theorem iv_s {lo hi : Int} {H : mx_H} {a : mx_A} {i : Nat} {v : Int32} (p : sf_iv lo hi v) : sf_iv lo hi ((mx_uI H a i v).2.1 a i) := iv_e (if_pos ⟨rfl, rfl⟩) p
theorem iv_g {lo hi : Int} {H : mx_H} {a : mx_A} {i j : Nat} {v : Int32} (hj : j ≠ i) (p : sf_iv lo hi (H.2.1 a j)) : sf_iv lo hi ((mx_uI H a i v).2.1 a j) := iv_e (if_neg (fun q => hj q.2)) p
theorem iv_L {lo hi : Int} {H : mx_H} {a b : mx_A} {i j : Nat} {v : Int64} (p : sf_iv lo hi (H.2.1 b j)) : sf_iv lo hi ((mx_uL H a i v).2.1 b j) := p
theorem ne_lr {k : Nat} {q : Nat × Nat} : (.inl k : mx_A) ≠ .inr q := fun e => by cases e
theorem ne_rl {k : Nat} {q : Nat × Nat} : (.inr q : mx_A) ≠ .inl k := fun e => by cases e
theorem ne_oo {j j2 o o2 : Nat} (h : o ≠ o2) : (.inr (j, o) : mx_A) ≠ .inr (j2, o2) := fun e => h (congrArg Prod.snd (Sum.inr.inj e))
theorem hx_s {j : Nat} {A : Nat → Prop} {B : Prop} (h : A j) : (∀ j', (some (.inr (.inr (j, 0))) : Option mx_V) = some (.inr (.inr (j', 0))) → A j') ∧ ((some (.inr (.inr (j, 0))) : Option mx_V) = some (.inl .null) → B) ∧ (∀ b, (some (.inr (.inr (j, 0))) : Option mx_V) = some (.inr b) → ∃ j', b = .inr (j', 0)) :=
  ⟨fun j' e => (by cases e; exact h), fun e => (by cases e), fun b e => (by cases e; exact ⟨j, rfl⟩)⟩
theorem fn98 {t : Nat} (ht : t < 6) : mx_fn true (.inl 98) t = some (.inr (t, 20)) := by
  show (bif Nat.blt t 6 then some (.inr (t, 20)) else none : Option mx_A) = _
  rw [show Nat.blt t 6 = true by simpa using ht]
  rfl
theorem iv_sv0 (E : mx_Ev) (k : Nat) : sf_iv (-1) 4 (mx_sval E 0 k) := by
  show sf_iv (-1) 4 (mx_k0 k)
  unfold mx_k0
  rcases (show k = 0 ∨ k = 1 ∨ k = 2 ∨ k = 3 ∨ k = 4 ∨ k = 5 ∨ 6 ≤ k by omega) with rfl | rfl | rfl | rfl | rfl | rfl | h
  · exact ⟨by decide, by decide⟩
  · exact ⟨by decide, by decide⟩
  · exact ⟨by decide, by decide⟩
  · exact ⟨by decide, by decide⟩
  · exact ⟨by decide, by decide⟩
  · exact ⟨by decide, by decide⟩
  · rw [List.getD_eq_getElem?_getD, List.getElem?_eq_none (by simpa using h)]
    exact ⟨by decide, by decide⟩
theorem iv_sv1 (E : mx_Ev) (k : Nat) : sf_iv 0 61 (mx_sval E 1 k) := by
  show sf_iv 0 61 (mx_k1 k)
  rcases Nat.lt_or_ge k 24 with h | h
  · have q : ∀ k, k < 24 → (0 : Int) ≤ (mx_k1 k).toInt ∧ (mx_k1 k).toInt ≤ 61 := by decide +kernel
    exact q k h
  · unfold mx_k1
    rw [List.getD_eq_getElem?_getD, List.getElem?_eq_none (by simpa using h)]
    exact ⟨by decide, by decide⟩
theorem iv_ne0L {a b : Int} {x : Int32} (h : sf_iv a b x) (hc : (decide (0 < a) || decide (b < 0)) = true) : ¬ x.toInt64 = 0 := fun e => by
  have e2 := congrArg Int64.toInt e
  rw [Int32.toInt_toInt64, show (0 : Int64).toInt = 0 from rfl] at e2
  simp only [Bool.or_eq_true, decide_eq_true_eq] at hc
  obtain ⟨x1, x2⟩ := h
  omega
theorem iv_rem2 {a b c d lo hi : Int} {x y : Int32} (hx : sf_iv a b x) (hy : sf_iv c d y) (hc : (decide (0 ≤ a) && (decide (0 < c) && (decide (lo ≤ 0) && decide (d - 1 ≤ hi)))) = true) : sf_iv lo hi (x - x / y * y) := by
  simp only [Bool.and_eq_true, decide_eq_true_eq] at hc
  obtain ⟨h1, h2, h3, h4⟩ := hc
  obtain ⟨y1, y2⟩ := hy
  exact iv_w (iv_rem (lo := 0) (hi := y.toInt - 1) hx ⟨Int.le_refl _, Int.le_refl _⟩ (by simp only [Bool.and_eq_true, decide_eq_true_eq]; omega)) (by simp only [Bool.and_eq_true, decide_eq_true_eq]; omega)
