/-! ===== 84x4: tables of fewer rows; no wrapping ===== -/
section MX4
variable {A A' : Nat → Nat → Int} {n r k R : Nat} {M : Nat → Nat → Int} {e : Nat → Int} {f : Nat → Int}
theorem gW_0 (h : ∀ i, i ≤ r → M r i = 0) : ∀ m i, i < r → gW M r m i = 0
  | 0, i, hi => h i (by omega)
  | m + 1, i, hi => by
    have ih := gW_0 h m
    show (bif Nat.beq (m % 2) 0 then gW M r m else gk_mv (· + ·) (· * ·) 0 M r (gW M r m)) i = 0
    cases Nat.beq (m % 2) 0 with
    | true => exact ih i hi
    | false =>
      show gk_mv (· + ·) (· * ·) 0 M r (gW M r m) i = 0
      rw [gmv]
      exact (vS_c r (fun j hj => by rw [ih j hj, Int.mul_zero])).trans (vS_zero r)
theorem gF_0 (h : ∀ i, i ≤ r → M r i = 0) : ∀ k, gF M r (k + 1) = 0
  | 0 => h r (Nat.le_refl _)
  | m + 1 => by
    have w := gW_0 h m
    show (bif Nat.beq (m % 2) 0 then -(gk_sum (· + ·) 0 (fun i => gW M r m i * gW M r m i) r) else gk_sum (· + ·) 0 (fun i => gW M r m i * gk_mv (· + ·) (· * ·) 0 M r (gW M r m) i) r) = 0
    have e1 : gk_sum (· + ·) 0 (fun i => gW M r m i * gW M r m i) r = 0 := by
      rw [gk_vS]
      exact (vS_c r (fun i hi => by rw [w i hi, Int.zero_mul])).trans (vS_zero r)
    have e2 : gk_sum (· + ·) 0 (fun i => gW M r m i * gk_mv (· + ·) (· * ·) 0 M r (gW M r m) i) r = 0 := by
      rw [gk_vS]
      exact (vS_c r (fun i hi => by rw [w i hi, Int.zero_mul])).trans (vS_zero r)
    rw [e1, e2]
    cases Nat.beq (m % 2) 0 <;> rfl
theorem gE_1 : ∀ r, gE M r 0 = 1
  | 0 => rfl
  | _ + 1 => rfl
theorem gE_0 (h : ∀ i, i ≤ r → M r i = 0) : ∀ k, k ≤ r + 1 → gE M (r + 1) k = if k ≤ r then gE M r k else 0
  | 0, _ => by
    rw [if_pos (Nat.zero_le _), gE_1, gE_1]
  | k + 1, hk => by
    have Z : ∀ m, m ≤ k + 1 → gk_sum (· + ·) 0 (fun j => gF M r (k + 1 - j) * gE M r j) m = 0 := fun m hm => by
      rw [gk_vS]
      refine (vS_c m (fun j hj => ?_)).trans (vS_zero m)
      rw [show k + 1 - j = (k - j) + 1 by omega, gF_0 h, Int.zero_mul]
    show gk_sum (· + ·) 0 (fun j => gF M r (k + 1 - j) * gE M r j) (min (k + 1) r + 1) = _
    by_cases q : k + 1 ≤ r
    · rw [if_pos q, show min (k + 1) r + 1 = k + 1 + 1 by omega]
      show gk_sum (· + ·) 0 (fun j => gF M r (k + 1 - j) * gE M r j) (k + 1) + gF M r (k + 1 - (k + 1)) * gE M r (k + 1) = _
      rw [Z (k + 1) (Nat.le_refl _), Nat.sub_self]
      show 0 + 1 * gE M r (k + 1) = _
      omega
    · rw [if_neg q, show min (k + 1) r + 1 = k + 1 by omega]
      exact Z (k + 1) (Nat.le_refl _)
/-- rows of zeros behind -/
def zp (n : Nat) (A : Nat → Nat → Int) (i j : Nat) : Int := if i < n ∧ j < n then A i j else 0
theorem zp_in {i j : Nat} (hi : i < n) (hj : j < n) : zp n A i j = A i j := if_pos ⟨hi, hj⟩
theorem zp_out {i j : Nat} (h : n ≤ i ∨ n ≤ j) : zp n A i j = 0 := if_neg (by omega)
theorem zp_Bi (n6 : n ≤ 6) {i j : Nat} (hi : i < n) (hj : j < n) : zB (zp n A) i j = zB A i j := by
  rw [zB_v (by omega) (by omega), zB_v (by omega) (by omega), zp_in hi hj, zp_in hj hi]
theorem zp_Bo {i j : Nat} (hi : i < 6) (hj : j < 6) (h : n ≤ i ∨ n ≤ j) : zB (zp n A) i j = 0 := by
  rw [zB_v hi hj, zp_out h, zp_out (by omega)]
  split <;> rfl
theorem zE_p (n6 : n ≤ 6) (hk : k ≤ 6) : zE (zB (zp n A)) 6 k = if k ≤ n then zE (zB A) n k else 0 := by
  have S : ∀ m, n + m ≤ 6 → ∀ k, k ≤ n + m → gE (zB (zp n A)) (n + m) k = if k ≤ n then gE (zB (zp n A)) n k else 0 := fun m => by
    induction m with
    | zero =>
      intro _ k hk
      rw [if_pos (by omega)]
      rfl
    | succ m ih =>
      intro hm k hk
      show gE (zB (zp n A)) (n + m + 1) k = _
      rw [gE_0 (fun i hi => zp_Bo (by omega) (by omega) (by omega)) k (by omega)]
      by_cases q : k ≤ n + m
      · rw [if_pos q]
        exact ih (by omega) k q
      · rw [if_neg q, if_neg (by omega)]
  rw [← zE_gk 6 (by decide) k hk]
  have s := S (6 - n) (by omega) k (by omega)
  rw [show n + (6 - n) = 6 by omega] at s
  refine s.trans ?_
  by_cases q : k ≤ n
  · rw [if_pos q, if_pos q, ← zE_gk n n6 k q]
    exact gE_c n (fun i j hi hj => zp_Bi n6 hi hj) k
  · rw [if_neg q, if_neg q]
theorem zi_0 : ∀ m, (∀ k, n < k → k ≤ n + m → e k = 0) → zi e (n + m) = zi e n
  | 0, _ => rfl
  | m + 1, h => by
    show zi e (n + m + 1) = _
    rw [zi, if_pos (h (n + m + 1) (by omega) (by omega))]
    exact zi_0 m (fun k h1 h2 => h k h1 (by omega))
theorem zn_p (n6 : n ≤ 6) : zn (zp n A) = (zi (zE (zB A) n) n).1 := by
  have h := zi_0 (n := n) (e := zE (zB (zp n A)) 6) (6 - n) (fun k h1 h2 => by
    rw [zE_p n6 (by omega), if_neg (by omega)])
  rw [show n + (6 - n) = 6 by omega] at h
  unfold zn
  rw [h, zi_c (e := zE (zB (zp n A)) 6) (e' := zE (zB A) n) n (fun k hk => by rw [zE_p n6 (by omega), if_pos hk])]
/-- lowered diagonal entries: no fewer sign changes -/
theorem zi_low {w : Nat → Int} (n6 : n ≤ 6) (sy : ∀ i j, i < n → j < n → A i j = A j i) (w0 : ∀ i, i < n → 0 ≤ w i) (h : ∀ i j, i < n → j < n → A' i j = if i = j then A i j - w i else A i j) : (zi (zE (zB A) n) n).1 ≤ (zi (zE (zB A') n) n).1 := by
  rw [← zn_p n6, ← zn_p n6]
  refine zn_low (w := fun i => if i < n then w i else 0) (fun i j hi hj => ?_) (fun i hi => ?_) (fun i j hi hj => ?_)
  · by_cases q : i < n ∧ j < n
    · rw [zp_in q.1 q.2, zp_in q.2 q.1, sy i j q.1 q.2]
    · rw [zp_out (by omega), zp_out (by omega)]
  · show 0 ≤ if i < n then w i else 0
    by_cases q : i < n
    · rw [if_pos q]
      exact w0 i q
    · rw [if_neg q]
      exact Int.le_refl 0
  · by_cases q : i < n ∧ j < n
    · rw [zp_in q.1 q.2, zp_in q.1 q.2, h i j q.1 q.2]
      by_cases z : i = j
      · rw [if_pos z, if_pos z, if_pos q.1]
      · rw [if_neg z, if_neg z]
    · rw [zp_out (by omega), zp_out (by omega)]
      by_cases z : i = j
      · rw [if_pos z, if_neg (by omega)]
        rfl
      · rw [if_neg z]
/-! how large the sums of minors are -/
def nb (f : Nat → Int) (j : Nat) : Nat → Nat
  | 0 => 0
  | k + 1 => (f j).natAbs + nb f (j + 1) k
theorem nb_r {T : Nat} : ∀ (k j : Nat) (s : Int) (b : Bool), (lp_r (· + ·) (- ·) f T k j s b).natAbs ≤ s.natAbs + nb f j k
  | 0, _, _, _ => Nat.le_refl _
  | k + 1, j, s, b => by
    rw [lp_r]
    show (bif T.testBit j then lp_r (· + ·) (- ·) f T k (j + 1) (s + bif b then -f j else f j) (!b) else lp_r (· + ·) (- ·) f T k (j + 1) s b).natAbs ≤ s.natAbs + ((f j).natAbs + nb f (j + 1) k)
    cases T.testBit j with
    | true =>
      have h := nb_r (T := T) k (j + 1) (s + bif b then -f j else f j) (!b)
      have h2 : (s + bif b then -f j else f j).natAbs ≤ s.natAbs + (f j).natAbs := by
        cases b with
        | true =>
          show (s + -f j).natAbs ≤ _
          omega
        | false =>
          show (s + f j).natAbs ≤ _
          omega
      show (lp_r (· + ·) (- ·) f T k (j + 1) (s + bif b then -f j else f j) (!b)).natAbs ≤ _
      omega
    | false =>
      have h := nb_r (T := T) k (j + 1) s b
      show (lp_r (· + ·) (- ·) f T k (j + 1) s b).natAbs ≤ _
      omega
theorem nb_mul {g : Nat → Int} {c : Nat} : ∀ (k j : Nat), (∀ i, (g i).natAbs ≤ (f i).natAbs * c) → nb g j k ≤ nb f j k * c
  | 0, _, _ => Nat.zero_le _
  | k + 1, j, h => by
    show (g j).natAbs + nb g (j + 1) k ≤ ((f j).natAbs + nb f (j + 1) k) * c
    rw [Nat.add_mul]
    exact Nat.add_le_add (h j) (nb_mul k (j + 1) h)
abbrev zD (M : Nat → Nat → Int) (n d S T : Nat) : Int := lp_D (· + ·) (· * ·) (- ·) 0 1 M n d S T
theorem zD_b (n7 : n < 7) (R1 : 1 ≤ R) (hR : ∀ i, i < n → nb (M i) 0 n ≤ R) : ∀ (d S T : Nat), S < 2 ^ n → (zD M n d S T).natAbs ≤ R ^ lp_bits n S
  | 0, S, T, _ => Nat.pow_pos R1
  | d + 1, S, T, hS => by
    show (bif Nat.beq S 0 then (1 : Int) else lp_r (· + ·) (- ·) (fun j => M (lp_low S n 0) j * zD M n d (S - 2 ^ lp_low S n 0) (T - 2 ^ j)) T n 0 0 false).natAbs ≤ R ^ lp_bits n S
    cases z : Nat.beq S 0 with
    | true => exact Nat.pow_pos R1
    | false =>
      have S0 : S ≠ 0 := fun q => by
        rw [q] at z
        cases z
      obtain ⟨m1, m2, m3, -⟩ := mi_l n n7 S hS S0
      have h := nb_r (f := fun j => M (lp_low S n 0) j * zD M n d (S - 2 ^ lp_low S n 0) (T - 2 ^ j)) (T := T) n 0 0 false
      have h2 := nb_mul (f := M (lp_low S n 0)) (g := fun j => M (lp_low S n 0) j * zD M n d (S - 2 ^ lp_low S n 0) (T - 2 ^ j)) (c := R ^ lp_bits n (S - 2 ^ lp_low S n 0)) n 0 (fun i => by
        show (M (lp_low S n 0) i * zD M n d (S - 2 ^ lp_low S n 0) (T - 2 ^ i)).natAbs ≤ _
        rw [Int.natAbs_mul]
        exact Nat.mul_le_mul_left _ (zD_b n7 R1 hR d _ _ (Nat.lt_of_le_of_lt (Nat.sub_le _ _) hS)))
      show (lp_r (· + ·) (- ·) (fun j => M (lp_low S n 0) j * zD M n d (S - 2 ^ lp_low S n 0) (T - 2 ^ j)) T n 0 0 false).natAbs ≤ R ^ lp_bits n S
      rw [← m3, Nat.pow_succ, Nat.mul_comm]
      have h3 := Nat.mul_le_mul_right (R ^ lp_bits n (S - 2 ^ lp_low S n 0)) (hR _ m2)
      have h4 : (0 : Int).natAbs = 0 := rfl
      rw [h4, Nat.zero_add] at h
      exact Nat.le_trans h (Nat.le_trans h2 h3)
/-- how many sets of k rows -/
def ct (n k : Nat) : Nat → Nat
  | 0 => 0
  | S + 1 => bif Nat.beq (lp_bits n S) k then ct n k S + 1 else ct n k S
theorem zS_b (n7 : n < 7) (R1 : 1 ≤ R) (hR : ∀ i, i < n → nb (M i) 0 n ≤ R) : ∀ S, S ≤ 2 ^ n → (lp_S (· + ·) (· * ·) (- ·) 0 1 M n k S).natAbs ≤ ct n k S * R ^ k
  | 0, _ => Nat.zero_le _
  | S + 1, hS => by
    have ih := zS_b n7 R1 hR S (by omega)
    show (bif Nat.beq (lp_bits n S) k then lp_S (· + ·) (· * ·) (- ·) 0 1 M n k S + zD M n n S S else lp_S (· + ·) (· * ·) (- ·) 0 1 M n k S).natAbs ≤ (bif Nat.beq (lp_bits n S) k then ct n k S + 1 else ct n k S) * R ^ k
    cases z : Nat.beq (lp_bits n S) k with
    | false => exact ih
    | true =>
      have h := zD_b n7 R1 hR n S S (by omega)
      rw [Nat.eq_of_beq_eq_true z] at h
      show (lp_S (· + ·) (· * ·) (- ·) 0 1 M n k S + zD M n n S S).natAbs ≤ (ct n k S + 1) * R ^ k
      rw [Nat.add_mul, Nat.one_mul]
      have h5 := Int.natAbs_add_le (lp_S (· + ·) (· * ·) (- ·) 0 1 M n k S) (zD M n n S S)
      exact Nat.le_trans h5 (Nat.add_le_add ih h)
theorem ct_b : ∀ n, n < 7 → ∀ k, k < 7 → ct n k (2 ^ n) * 1296 ^ k < 9223372036854775808 := by decide +kernel
theorem zE_b (n6 : n ≤ 6) (hk : k ≤ n) (hR : ∀ i, i < n → nb (M i) 0 n ≤ 1296) : (zE M n k).natAbs < 9223372036854775808 := Nat.lt_of_le_of_lt (zS_b (by omega) (by decide) hR _ (Nat.le_refl _)) (ct_b n (by omega) k (by omega))
theorem i64_in {x : Int} (h : x.natAbs < 9223372036854775808) : (Int64.ofInt x).toInt = x := by
  rw [Int64.toInt_ofInt]
  show Int.bmod x 18446744073709551616 = x
  rw [Int.bmod_def]
  omega
theorem zc_zi {E : Nat → Int} : ∀ n, (∀ k, k ≤ n → (E k).natAbs < 9223372036854775808) → zc (fun k => Int64.ofInt (E k)) n = zi E n
  | 0, _ => rfl
  | k + 1, h => by
    have ih := zc_zi (E := E) k (fun i hi => h i (by omega))
    have x := i64_in (h (k + 1) (Nat.le_refl _))
    have z0 : (0 : Int64).toInt = 0 := rfl
    unfold zc zi
    rw [ih]
    by_cases z : E (k + 1) = 0
    · rw [if_pos z, if_pos (by rw [z]; rfl)]
    · have n0 : ¬ Int64.ofInt (E (k + 1)) = 0 := fun q => by
        rw [q] at x
        rw [z0] at x
        exact z x.symm
      rw [if_neg z, if_neg n0]
      have d : decide (Int64.ofInt (E (k + 1)) < 0) = decide (E (k + 1) < 0) := by
        have e1 : (Int64.ofInt (E (k + 1)) < 0) ↔ E (k + 1) < 0 := by
          rw [Int64.lt_iff_toInt_lt, x, z0]
        by_cases q : E (k + 1) < 0
        · rw [decide_eq_true q, decide_eq_true (e1.mpr q)]
        · rw [decide_eq_false q, decide_eq_false (fun w => q (e1.mp w))]
      show (if decide (Int64.ofInt (E (k + 1)) < 0) = (zi E k).2 then zi E k else ((zi E k).1 + 1, !(zi E k).2)) = _
      rw [d]
theorem zi_le : ∀ n, (zi e n).1 ≤ n
  | 0 => Nat.le_refl _
  | k + 1 => by
    have := zi_le k
    show (if e (k + 1) = 0 then zi e k else if decide (e (k + 1) < 0) = (zi e k).2 then zi e k else ((zi e k).1 + 1, !(zi e k).2)).1 ≤ k + 1
    split
    · omega
    · split
      · omega
      · show (zi e k).1 + 1 ≤ k + 1
        omega
end MX4
