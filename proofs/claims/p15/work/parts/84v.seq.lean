/-! ===== 84v: sign changes of a sequence that is lowered ===== -/
/-- sign changes of integers -/
def zi (e : Nat → Int) : Nat → Nat × Bool
  | 0 => (0, false)
  | k + 1 => if e (k + 1) = 0 then zi e k else if decide (e (k + 1) < 0) = (zi e k).2 then zi e k else ((zi e k).1 + 1, !(zi e k).2)
theorem zi_par (e : Nat → Int) : ∀ k, (zi e k).2 = Nat.testBit (zi e k).1 0
  | 0 => by
    show false = Nat.testBit 0 0
    rw [Nat.zero_testBit]
  | k + 1 => by
    unfold zi
    split
    · exact zi_par e k
    · split
      · exact zi_par e k
      · have := zi_par e k
        rw [Nat.testBit_zero] at this
        show (!(zi e k).2) = Nat.testBit ((zi e k).1 + 1) 0
        rw [this, Nat.testBit_zero]
        have h : (zi e k).1 % 2 = 0 ∨ (zi e k).1 % 2 = 1 := by omega
        rcases h with h | h
        · have h2 : ((zi e k).1 + 1) % 2 = 1 := by omega
          rw [h, h2]
          rfl
        · have h2 : ((zi e k).1 + 1) % 2 = 0 := by omega
          rw [h, h2]
          rfl
theorem zi_last {e : Nat → Int} (h0 : 0 < e 0) : ∀ k, e k ≠ 0 → (zi e k).2 = decide (e k < 0)
  | 0, _ => (decide_eq_false (by omega)).symm
  | k + 1, h => by
    unfold zi
    rw [if_neg h]
    split
    · rename_i z
      exact z.symm
    · rename_i z
      show (!(zi e k).2) = _
      revert z
      cases (zi e k).2 <;> cases decide (e (k + 1) < 0) <;> intro z
      · exact absurd rfl z
      · rfl
      · rfl
      · exact absurd rfl z
theorem zi_up (e : Nat → Int) (k : Nat) : (zi e k).1 ≤ (zi e (k + 1)).1 := by
  show (zi e k).1 ≤ (if e (k + 1) = 0 then zi e k else if decide (e (k + 1) < 0) = (zi e k).2 then zi e k else ((zi e k).1 + 1, !(zi e k).2)).1
  split
  · exact Nat.le_refl _
  · split
    · exact Nat.le_refl _
    · exact Nat.le_succ _
theorem zs_neg {d a a1 b b1 : Int} (d0 : 0 < d) (h1 : a1 < 0) (h2 : 0 ≤ a1 - d * b1) (h3 : 0 ≤ a) (h4 : 0 ≤ a - d * b) (X0 : 0 ≤ a * b1 - a1 * b) (X1 : a * b1 - a1 * b = 0 → b1 = 0) : False := by
  have e : d * (a * b1 - a1 * b) = a * (d * b1) + (-a1) * (d * b) := by
    rw [Int.mul_sub, Int.mul_left_comm d a b1, Int.mul_left_comm d a1 b, Int.neg_mul, Int.sub_eq_add_neg]
  have e1 : a * (d * b1) ≤ a * a1 := Int.mul_le_mul_of_nonneg_left (by omega) h3
  have e2 : (-a1) * (d * b) ≤ (-a1) * a := Int.mul_le_mul_of_nonneg_left (by omega) (by omega)
  have e3 : a * a1 + (-a1) * a = 0 := by rw [Int.neg_mul, Int.mul_comm a a1, Int.add_right_neg]
  have e4 : d * (a * b1 - a1 * b) ≤ 0 := by
    rw [e]
    exact Int.le_trans (Int.add_le_add e1 e2) (Int.le_of_eq e3)
  have X2 : a * b1 - a1 * b = 0 := by
    by_cases z : a * b1 - a1 * b = 0
    · exact z
    · have p := Int.mul_pos d0 (show 0 < a * b1 - a1 * b by
        generalize a * b1 - a1 * b = x at X0 z ⊢
        omega)
      exact absurd e4 (Int.not_le.mpr p)
  have b0 := X1 X2
  rw [b0, Int.mul_zero] at h2
  omega
theorem zs_pos {d a a1 b b1 : Int} (d0 : 0 < d) (h1 : 0 < a1) (h2 : a1 - d * b1 ≤ 0) (h3 : a ≤ 0) (h4 : a - d * b ≤ 0) (X0 : 0 ≤ a * b1 - a1 * b) (X1 : a * b1 - a1 * b = 0 → b1 = 0) : False :=
  zs_neg (a := -a) (a1 := -a1) (b := -b) (b1 := -b1) d0 (by omega) (by rw [Int.mul_neg]; omega) (by omega) (by rw [Int.mul_neg]; omega) (by rw [Int.neg_mul_neg, Int.neg_mul_neg]; exact X0) (fun z => by
    rw [Int.neg_mul_neg, Int.neg_mul_neg] at z
    rw [X1 z]
    rfl)
/-- lowering a diagonal entry never takes a sign change away -/
theorem zi_mono {a b : Nat → Int} {d : Int} {n : Nat} (d0 : 0 < d) (a0 : a 0 = 1) (b0 : b 0 = 0) (X0 : ∀ m, m < n → 0 ≤ a m * b (m + 1) - a (m + 1) * b m) (X1 : ∀ m, m < n → a m * b (m + 1) - a (m + 1) * b m = 0 → b (m + 1) = 0) : ∀ k, k ≤ n → (zi a k).1 ≤ (zi (fun i => a i - d * b i) k).1
  | 0, _ => Nat.le_refl _
  | k + 1, hk => by
    have ih := zi_mono d0 a0 b0 X0 X1 k (by omega)
    have up := zi_up (fun i => a i - d * b i) k
    have pa := zi_par a k
    have pc := zi_par (fun i => a i - d * b i) k
    have la := zi_last (e := a) (by omega) k
    have lc := zi_last (e := fun i => a i - d * b i) (show 0 < a 0 - d * b 0 by rw [a0, b0, Int.mul_zero]; decide) k
    have x0 := X0 k (by omega)
    have x1 := X1 k (by omega)
    by_cases z : a (k + 1) = 0
    · have : zi a (k + 1) = zi a k := by rw [zi, if_pos z]
      rw [this]
      exact Nat.le_trans ih up
    · by_cases f : decide (a (k + 1) < 0) = (zi a k).2
      · have : zi a (k + 1) = zi a k := by rw [zi, if_neg z, if_pos f]
        rw [this]
        exact Nat.le_trans ih up
      · have ea : (zi a (k + 1)).1 = (zi a k).1 + 1 := by rw [zi, if_neg z, if_neg f]
        rw [ea]
        by_cases eq : (zi a k).1 = (zi (fun i => a i - d * b i) k).1
        · have same : (zi (fun i => a i - d * b i) k).2 = (zi a k).2 := by rw [pa, pc, eq]
          by_cases zc1 : a (k + 1) - d * b (k + 1) = 0
          · exfalso
            cases s : (zi a k).2 with
            | false =>
              rw [s] at f
              have f1 : a (k + 1) < 0 := by
                by_cases w : a (k + 1) < 0
                · exact w
                · exact absurd (decide_eq_false w) f
              refine zs_neg d0 f1 (by omega) ?_ ?_ x0 x1
              · by_cases w : a k = 0
                · omega
                · have := la w
                  rw [s] at this
                  exact Int.not_lt.mp (of_decide_eq_false this.symm)
              · by_cases w : a k - d * b k = 0
                · omega
                · have := lc w
                  rw [same, s] at this
                  exact Int.not_lt.mp (of_decide_eq_false this.symm)
            | true =>
              rw [s] at f
              have f1 : 0 < a (k + 1) := by
                by_cases w : a (k + 1) < 0
                · exact absurd (decide_eq_true w) f
                · omega
              refine zs_pos d0 f1 (by omega) ?_ ?_ x0 x1
              · by_cases w : a k = 0
                · omega
                · have := la w
                  rw [s] at this
                  exact Int.le_of_lt (of_decide_eq_true this.symm)
              · by_cases w : a k - d * b k = 0
                · omega
                · have := lc w
                  rw [same, s] at this
                  exact Int.le_of_lt (of_decide_eq_true this.symm)
          · by_cases g : decide (a (k + 1) - d * b (k + 1) < 0) = (zi (fun i => a i - d * b i) k).2
            · exfalso
              rw [same] at g
              cases s : (zi a k).2 with
              | false =>
                rw [s] at f g
                have f1 : a (k + 1) < 0 := by
                  by_cases w : a (k + 1) < 0
                  · exact w
                  · exact absurd (decide_eq_false w) f
                have g1 := of_decide_eq_false g
                refine zs_neg d0 f1 (by omega) ?_ ?_ x0 x1
                · by_cases w : a k = 0
                  · omega
                  · have := la w
                    rw [s] at this
                    exact Int.not_lt.mp (of_decide_eq_false this.symm)
                · by_cases w : a k - d * b k = 0
                  · omega
                  · have := lc w
                    rw [same, s] at this
                    exact Int.not_lt.mp (of_decide_eq_false this.symm)
              | true =>
                rw [s] at f g
                have f1 : 0 < a (k + 1) := by
                  by_cases w : a (k + 1) < 0
                  · exact absurd (decide_eq_true w) f
                  · omega
                have g1 := of_decide_eq_true g
                refine zs_pos d0 f1 (by omega) ?_ ?_ x0 x1
                · by_cases w : a k = 0
                  · omega
                  · have := la w
                    rw [s] at this
                    exact Int.le_of_lt (of_decide_eq_true this.symm)
                · by_cases w : a k - d * b k = 0
                  · omega
                  · have := lc w
                    rw [same, s] at this
                    exact Int.le_of_lt (of_decide_eq_true this.symm)
            · have ec : (zi (fun i => a i - d * b i) (k + 1)).1 = (zi (fun i => a i - d * b i) k).1 + 1 := by rw [zi, if_neg zc1, if_neg g]
              rw [ec, eq]
              exact Nat.le_refl _
        · omega
/-! two searches for the greatest p -/
/-- the answer of both: the greatest p up to 99 that is 0 or has f p within i -/
def zg (f : Nat → Nat) (i : Int) (p : Nat) : Prop := p ≤ 99 ∧ (p = 0 ∨ (f p : Int) ≤ i) ∧ ∀ p', p < p' → p' ≤ 99 → i < (f p' : Int)
theorem zg_u {f : Nat → Nat} {i : Int} {p q : Nat} (h1 : zg f i p) (h2 : zg f i q) : p = q := by
  by_cases l : p < q
  · rcases h2.2.1 with z | z
    · omega
    · have := h1.2.2 q l h2.1
      omega
  · by_cases l2 : q < p
    · rcases h1.2.1 with z | z
      · omega
      · have := h2.2.2 p l2 h1.1
        omega
    · omega
