/-! ===== sums of minors: two ways, one value ===== -/
section PO
/-- polynomials: lists of monomials (sorted lists of variables) with what they count -/
abbrev po_P : Type := List (List Nat × Int)
def po_cmp : List Nat → List Nat → Nat
  | [], [] => 1
  | [], _ :: _ => 0
  | _ :: _, [] => 2
  | a :: s, b :: t => bif Nat.blt a b then 0 else bif Nat.blt b a then 2 else po_cmp s t
theorem po_cmp1 : ∀ (s t : List Nat), po_cmp s t = 1 → s = t
  | [], [], _ => rfl
  | [], _ :: _, h => by cases h
  | _ :: _, [], h => by cases h
  | a :: s, b :: t, h => by
    unfold po_cmp at h
    cases h1 : Nat.blt a b with
    | true =>
      rw [h1] at h
      cases h
    | false =>
      rw [h1] at h
      cases h2 : Nat.blt b a with
      | true =>
        rw [h2] at h
        cases h
      | false =>
        rw [h2] at h
        have e1 : ¬ a < b := fun q => by
          rw [Nat.blt_eq.mpr q] at h1
          cases h1
        have e2 : ¬ b < a := fun q => by
          rw [Nat.blt_eq.mpr q] at h2
          cases h2
        have e : a = b := by omega
        rw [e, po_cmp1 s t h]
def po_m1 (a : Nat) (s : List Nat) (f : List Nat → List Nat) : List Nat → List Nat
  | [] => a :: s
  | b :: t => bif Nat.blt b a then b :: po_m1 a s f t else a :: f (b :: t)
def po_mm : List Nat → List Nat → List Nat
  | [], t => t
  | a :: s, t => po_m1 a s (po_mm s) t
def po_z : Int → Bool
  | .ofNat n => Nat.beq n 0
  | .negSucc _ => false
theorem po_z0 : ∀ {x : Int}, po_z x = true → x = 0
  | .ofNat n, h => by
    have : n = 0 := Nat.eq_of_beq_eq_true h
    subst this
    rfl
  | .negSucc n, h => by cases h
def po_a1 (t : List Nat × Int) (p : po_P) (f : po_P → po_P) : po_P → po_P
  | [] => t :: p
  | u :: q => match po_cmp t.1 u.1 with
    | 0 => t :: f (u :: q)
    | 1 => bif po_z (t.2 + u.2) then f q else (t.1, t.2 + u.2) :: f q
    | _ => u :: po_a1 t p f q
def po_add : po_P → po_P → po_P
  | [], q => q
  | t :: p, q => po_a1 t p (po_add p) q
def po_neg (p : po_P) : po_P := p.map (fun t => (t.1, -t.2))
def po_sc (t : List Nat × Int) (p : po_P) : po_P := p.map (fun u => (po_mm t.1 u.1, t.2 * u.2))
def po_mul : po_P → po_P → po_P
  | [], _ => []
  | t :: p, q => po_add (po_sc t q) (po_mul p q)
/-- what they are worth -/
def po_mo (ρ : Nat → Int) : List Nat → Int
  | [] => 1
  | a :: s => ρ a * po_mo ρ s
def po_ev (ρ : Nat → Int) : po_P → Int
  | [] => 0
  | t :: p => t.2 * po_mo ρ t.1 + po_ev ρ p
variable {ρ : Nat → Int}
theorem po_m1e {a : Nat} {s : List Nat} {f : List Nat → List Nat} (hf : ∀ t, po_mo ρ (f t) = po_mo ρ s * po_mo ρ t) : ∀ t, po_mo ρ (po_m1 a s f t) = ρ a * po_mo ρ s * po_mo ρ t
  | [] => (Int.mul_one _).symm
  | b :: t => by
    unfold po_m1
    cases Nat.blt b a with
    | true =>
      show ρ b * po_mo ρ (po_m1 a s f t) = ρ a * po_mo ρ s * (ρ b * po_mo ρ t)
      rw [po_m1e hf t, Int.mul_left_comm]
    | false =>
      show ρ a * po_mo ρ (f (b :: t)) = _
      rw [hf, Int.mul_assoc]
theorem po_mme : ∀ (s t : List Nat), po_mo ρ (po_mm s t) = po_mo ρ s * po_mo ρ t
  | [], t => (Int.one_mul _).symm
  | a :: s, t => po_m1e (po_mme s) t
theorem po_a1e {t : List Nat × Int} {p : po_P} {f : po_P → po_P} (hf : ∀ q, po_ev ρ (f q) = po_ev ρ p + po_ev ρ q) : ∀ q, po_ev ρ (po_a1 t p f q) = t.2 * po_mo ρ t.1 + po_ev ρ p + po_ev ρ q
  | [] => (Int.add_zero _).symm
  | u :: q => by
    unfold po_a1
    split
    · show t.2 * po_mo ρ t.1 + po_ev ρ (f (u :: q)) = _
      rw [hf, Int.add_assoc]
    · next h =>
      have e := po_cmp1 _ _ h
      have key : t.2 * po_mo ρ t.1 + po_ev ρ p + po_ev ρ (u :: q) = (t.2 + u.2) * po_mo ρ t.1 + (po_ev ρ p + po_ev ρ q) := by
        show t.2 * po_mo ρ t.1 + po_ev ρ p + (u.2 * po_mo ρ u.1 + po_ev ρ q) = _
        rw [← e, Int.add_mul]
        generalize t.2 * po_mo ρ t.1 = A
        generalize u.2 * po_mo ρ t.1 = B
        omega
      rw [key]
      cases z : po_z (t.2 + u.2) with
      | true =>
        rw [po_z0 z, Int.zero_mul, Int.zero_add]
        exact hf q
      | false =>
        show (t.2 + u.2) * po_mo ρ t.1 + po_ev ρ (f q) = _
        rw [hf]
    · show u.2 * po_mo ρ u.1 + po_ev ρ (po_a1 t p f q) = t.2 * po_mo ρ t.1 + po_ev ρ p + (u.2 * po_mo ρ u.1 + po_ev ρ q)
      rw [po_a1e hf q]
      generalize t.2 * po_mo ρ t.1 = A
      generalize u.2 * po_mo ρ u.1 = B
      omega
theorem po_adde : ∀ (p q : po_P), po_ev ρ (po_add p q) = po_ev ρ p + po_ev ρ q
  | [], q => (Int.zero_add _).symm
  | t :: p, q => po_a1e (po_adde p) q
theorem po_nege : ∀ p : po_P, po_ev ρ (po_neg p) = -po_ev ρ p
  | [] => rfl
  | t :: p => by
    show -t.2 * po_mo ρ t.1 + po_ev ρ (po_neg p) = -(t.2 * po_mo ρ t.1 + po_ev ρ p)
    rw [po_nege p, Int.neg_mul, Int.neg_add]
theorem po_sce {t : List Nat × Int} : ∀ p : po_P, po_ev ρ (po_sc t p) = t.2 * po_mo ρ t.1 * po_ev ρ p
  | [] => (Int.mul_zero _).symm
  | u :: p => by
    show t.2 * u.2 * po_mo ρ (po_mm t.1 u.1) + po_ev ρ (po_sc t p) = t.2 * po_mo ρ t.1 * (u.2 * po_mo ρ u.1 + po_ev ρ p)
    rw [po_sce p, po_mme, Int.mul_add]
    congr 1
    rw [Int.mul_assoc, Int.mul_assoc, Int.mul_left_comm u.2]
theorem po_mule : ∀ (p q : po_P), po_ev ρ (po_mul p q) = po_ev ρ p * po_ev ρ q
  | [], q => (Int.zero_mul _).symm
  | t :: p, q => by
    show po_ev ρ (po_add (po_sc t q) (po_mul p q)) = (t.2 * po_mo ρ t.1 + po_ev ρ p) * po_ev ρ q
    rw [po_adde, po_sce, po_mule p q, Int.add_mul]
/-! the class's way and the reference's, over any ring -/
section GK
variable {α β : Type} (ad mu : α → α → α) (ne : α → α) (z o : α) (M : Nat → Nat → α)
def gk_sum (f : Nat → α) : Nat → α
  | 0 => z
  | n + 1 => ad (gk_sum f n) (f n)
def gk_mv (r : Nat) (x : Nat → α) (i : Nat) : α := gk_sum ad z (fun j => mu (M i j) (x j)) r
/-- the vector when step m + 2 begins -/
def gk_w (r : Nat) : Nat → Nat → α
  | 0 => fun i => M r i
  | m + 1 => bif Nat.beq (m % 2) 0 then gk_w r m else gk_mv ad mu z M r (gk_w r m)
def gk_F (r : Nat) : Nat → α
  | 0 => o
  | 1 => M r r
  | m + 2 => bif Nat.beq (m % 2) 0 then ne (gk_sum ad z (fun i => mu (gk_w ad mu z M r m i) (gk_w ad mu z M r m i)) r) else gk_sum ad z (fun i => mu (gk_w ad mu z M r m i) (gk_mv ad mu z M r (gk_w ad mu z M r m) i)) r
/-- a row more -/
def gk_N (r : Nat) (E : Nat → α) (k : Nat) : α := gk_sum ad z (fun j => mu (gk_F ad mu ne z o M r (k - j)) (E j)) (min k r + 1)
def gk_E : Nat → Nat → α
  | 0, _ => o
  | r + 1, 0 => o
  | r + 1, k + 1 => gk_N ad mu ne z o M r (gk_E r) (k + 1)
def lp_low (S : Nat) : Nat → Nat → Nat
  | 0, _ => 0
  | f + 1, i => bif S.testBit i then i else lp_low S f (i + 1)
def lp_r (f : Nat → α) (T : Nat) : Nat → Nat → α → Bool → α
  | 0, _, s, _ => s
  | k + 1, j, s, b => bif T.testBit j then lp_r f T k (j + 1) (ad s (bif b then ne (f j) else f j)) (!b) else lp_r f T k (j + 1) s b
def lp_D (n : Nat) : Nat → Nat → Nat → α
  | 0, _, _ => o
  | d + 1, S, T => bif Nat.beq S 0 then o else lp_r ad ne (fun j => mu (M (lp_low S n 0) j) (lp_D n d (S - 2 ^ lp_low S n 0) (T - 2 ^ j))) T n 0 z false
def lp_bits : Nat → Nat → Nat
  | 0, _ => 0
  | f + 1, S => lp_bits f (S / 2) + S % 2
def lp_S (n k : Nat) : Nat → α
  | 0 => z
  | S + 1 => bif Nat.beq (lp_bits n S) k then ad (lp_S n k S) (lp_D ad mu ne z o M n n S S) else lp_S n k S
def lp_E (n k : Nat) : α := lp_S ad mu ne z o M n k (2 ^ n)
end GK
section GH
variable {α β : Type} {ad mu : α → α → α} {ne : α → α} {z o : α} {ad' mu' : β → β → β} {ne' : β → β} {z' o' : β} {M : Nat → Nat → α} {φ : α → β}
theorem gk_sum_c {f g : Nat → β} : ∀ n, (∀ i, i < n → f i = g i) → gk_sum ad' z' f n = gk_sum ad' z' g n
  | 0, _ => rfl
  | n + 1, h => by
    show ad' (gk_sum ad' z' f n) (f n) = ad' (gk_sum ad' z' g n) (g n)
    rw [gk_sum_c n (fun i hi => h i (by omega)), h n (by omega)]
/-- what is said of one ring is said of the other -/
def gk_H (φ : α → β) (ad mu : α → α → α) (ne : α → α) (z o : α) (ad' mu' : β → β → β) (ne' : β → β) (z' o' : β) : Prop := (∀ a b, φ (ad a b) = ad' (φ a) (φ b)) ∧ (∀ a b, φ (mu a b) = mu' (φ a) (φ b)) ∧ (∀ a, φ (ne a) = ne' (φ a)) ∧ φ z = z' ∧ φ o = o'
theorem gk_sum_h (H : gk_H φ ad mu ne z o ad' mu' ne' z' o') {f : Nat → α} : ∀ n, φ (gk_sum ad z f n) = gk_sum ad' z' (fun i => φ (f i)) n
  | 0 => H.2.2.2.1
  | n + 1 => by
    show φ (ad (gk_sum ad z f n) (f n)) = ad' (gk_sum ad' z' (fun i => φ (f i)) n) (φ (f n))
    rw [H.1, gk_sum_h H n]
theorem gk_mv_h (H : gk_H φ ad mu ne z o ad' mu' ne' z' o') {r i : Nat} {x : Nat → α} : φ (gk_mv ad mu z M r x i) = gk_mv ad' mu' z' (fun i j => φ (M i j)) r (fun i => φ (x i)) i := by
  unfold gk_mv
  rw [gk_sum_h H]
  exact gk_sum_c r (fun j _ => H.2.1 _ _)
theorem gk_w_h (H : gk_H φ ad mu ne z o ad' mu' ne' z' o') {r : Nat} : ∀ m i, φ (gk_w ad mu z M r m i) = gk_w ad' mu' z' (fun i j => φ (M i j)) r m i
  | 0, i => rfl
  | m + 1, i => by
    unfold gk_w
    cases Nat.beq (m % 2) 0 with
    | true => exact gk_w_h H m i
    | false =>
      show φ (gk_mv ad mu z M r (gk_w ad mu z M r m) i) = gk_mv ad' mu' z' (fun i j => φ (M i j)) r (gk_w ad' mu' z' (fun i j => φ (M i j)) r m) i
      rw [gk_mv_h H, show (fun i => φ (gk_w ad mu z M r m i)) = gk_w ad' mu' z' (fun i j => φ (M i j)) r m from funext (gk_w_h H m)]
theorem gk_F_2 {r m : Nat} : gk_F ad mu ne z o M r (m + 2) = bif Nat.beq (m % 2) 0 then ne (gk_sum ad z (fun i => mu (gk_w ad mu z M r m i) (gk_w ad mu z M r m i)) r) else gk_sum ad z (fun i => mu (gk_w ad mu z M r m i) (gk_mv ad mu z M r (gk_w ad mu z M r m) i)) r := rfl
theorem gk_F_h (H : gk_H φ ad mu ne z o ad' mu' ne' z' o') {r : Nat} : ∀ k, φ (gk_F ad mu ne z o M r k) = gk_F ad' mu' ne' z' o' (fun i j => φ (M i j)) r k
  | 0 => H.2.2.2.2
  | 1 => rfl
  | m + 2 => by
    have w : ∀ i, φ (gk_w ad mu z M r m i) = gk_w ad' mu' z' (fun i j => φ (M i j)) r m i := gk_w_h H m
    rw [gk_F_2, gk_F_2]
    cases Nat.beq (m % 2) 0 with
    | true =>
      show φ (ne (gk_sum ad z (fun i => mu (gk_w ad mu z M r m i) (gk_w ad mu z M r m i)) r)) = ne' (gk_sum ad' z' (fun i => mu' (gk_w ad' mu' z' (fun i j => φ (M i j)) r m i) (gk_w ad' mu' z' (fun i j => φ (M i j)) r m i)) r)
      rw [H.2.2.1, gk_sum_h H]
      refine congrArg ne' (gk_sum_c r (fun j _ => ?_))
      rw [H.2.1, w]
    | false =>
      show φ (gk_sum ad z (fun i => mu (gk_w ad mu z M r m i) (gk_mv ad mu z M r (gk_w ad mu z M r m) i)) r) = gk_sum ad' z' (fun i => mu' (gk_w ad' mu' z' (fun i j => φ (M i j)) r m i) (gk_mv ad' mu' z' (fun i j => φ (M i j)) r (gk_w ad' mu' z' (fun i j => φ (M i j)) r m) i)) r
      rw [gk_sum_h H]
      refine gk_sum_c r (fun j _ => ?_)
      rw [H.2.1, w, gk_mv_h H, show (fun i => φ (gk_w ad mu z M r m i)) = gk_w ad' mu' z' (fun i j => φ (M i j)) r m from funext w]
theorem gk_N_h (H : gk_H φ ad mu ne z o ad' mu' ne' z' o') {r k : Nat} {E : Nat → α} : φ (gk_N ad mu ne z o M r E k) = gk_N ad' mu' ne' z' o' (fun i j => φ (M i j)) r (fun j => φ (E j)) k := by
  unfold gk_N
  rw [gk_sum_h H]
  refine gk_sum_c _ (fun j _ => ?_)
  rw [H.2.1, gk_F_h H]
theorem gk_E_h (H : gk_H φ ad mu ne z o ad' mu' ne' z' o') : ∀ r k, φ (gk_E ad mu ne z o M r k) = gk_E ad' mu' ne' z' o' (fun i j => φ (M i j)) r k
  | 0, _ => H.2.2.2.2
  | r + 1, 0 => H.2.2.2.2
  | r + 1, k + 1 => by
    show φ (gk_N ad mu ne z o M r (gk_E ad mu ne z o M r) (k + 1)) = gk_N ad' mu' ne' z' o' (fun i j => φ (M i j)) r (gk_E ad' mu' ne' z' o' (fun i j => φ (M i j)) r) (k + 1)
    rw [gk_N_h H, show (fun j => φ (gk_E ad mu ne z o M r j)) = gk_E ad' mu' ne' z' o' (fun i j => φ (M i j)) r from funext (gk_E_h H r)]
theorem lp_r_h (H : gk_H φ ad mu ne z o ad' mu' ne' z' o') {f : Nat → α} {T : Nat} : ∀ k j s b, φ (lp_r ad ne f T k j s b) = lp_r ad' ne' (fun i => φ (f i)) T k j (φ s) b
  | 0, _, _, _ => rfl
  | k + 1, j, s, b => by
    rw [lp_r, lp_r]
    cases T.testBit j with
    | true =>
      show φ (lp_r ad ne f T k (j + 1) (ad s (bif b then ne (f j) else f j)) (!b)) = lp_r ad' ne' (fun i => φ (f i)) T k (j + 1) (ad' (φ s) (bif b then ne' (φ (f j)) else φ (f j))) (!b)
      rw [lp_r_h H k, H.1]
      cases b with
      | true =>
        show lp_r ad' ne' (fun i => φ (f i)) T k (j + 1) (ad' (φ s) (φ (ne (f j)))) (!true) = _
        rw [H.2.2.1]
        rfl
      | false => rfl
    | false => exact lp_r_h H k (j + 1) s b
theorem lp_D_h (H : gk_H φ ad mu ne z o ad' mu' ne' z' o') {n : Nat} : ∀ d S T, φ (lp_D ad mu ne z o M n d S T) = lp_D ad' mu' ne' z' o' (fun i j => φ (M i j)) n d S T
  | 0, _, _ => H.2.2.2.2
  | d + 1, S, T => by
    rw [lp_D, lp_D]
    cases Nat.beq S 0 with
    | true => exact H.2.2.2.2
    | false =>
      show φ (lp_r ad ne (fun j => mu (M (lp_low S n 0) j) (lp_D ad mu ne z o M n d (S - 2 ^ lp_low S n 0) (T - 2 ^ j))) T n 0 z false) = lp_r ad' ne' (fun j => mu' (φ (M (lp_low S n 0) j)) (lp_D ad' mu' ne' z' o' (fun i j => φ (M i j)) n d (S - 2 ^ lp_low S n 0) (T - 2 ^ j))) T n 0 z' false
      rw [lp_r_h H, H.2.2.2.1]
      congr 1
      funext j
      rw [H.2.1, lp_D_h H d]
theorem lp_S_h (H : gk_H φ ad mu ne z o ad' mu' ne' z' o') {n k : Nat} : ∀ S, φ (lp_S ad mu ne z o M n k S) = lp_S ad' mu' ne' z' o' (fun i j => φ (M i j)) n k S
  | 0 => H.2.2.2.1
  | S + 1 => by
    unfold lp_S
    cases Nat.beq (lp_bits n S) k with
    | true =>
      show φ (ad _ _) = ad' _ _
      rw [H.1, lp_S_h H S, lp_D_h H]
    | false => exact lp_S_h H S
theorem lp_E_h (H : gk_H φ ad mu ne z o ad' mu' ne' z' o') {n k : Nat} : φ (lp_E ad mu ne z o M n k) = lp_E ad' mu' ne' z' o' (fun i j => φ (M i j)) n k := lp_S_h H _
end GH
/-! the two ways are one, for symmetric tables of up to six rows -/
def po_M (i j : Nat) : po_P := [([bif Nat.blt i j then 6 * i + j else 6 * j + i], 1)]
def po_o : po_P := [([], 1)]
def po_be : po_P → po_P → Bool
  | [], [] => true
  | t :: p, u :: q => (Nat.beq (po_cmp t.1 u.1) 1 && po_z (t.2 - u.2)) && po_be p q
  | _, _ => false
theorem po_bee : ∀ (p q : po_P), po_be p q = true → p = q
  | [], [], _ => rfl
  | [], _ :: _, h => by cases h
  | _ :: _, [], h => by cases h
  | t :: p, u :: q, h => by
    obtain ⟨h1, h2⟩ := (Bool.and_eq_true _ _).mp h
    obtain ⟨h3, h4⟩ := (Bool.and_eq_true _ _).mp h1
    have e1 := po_cmp1 _ _ (Nat.eq_of_beq_eq_true h3)
    have e2 : t.2 = u.2 := by
      have := po_z0 h4
      omega
    rw [po_bee p q h2, Prod.ext e1 e2]
def po_ck (r k : Nat) : Bool := po_be (lp_E po_add po_mul po_neg [] po_o po_M (r + 1) k) (gk_N po_add po_mul po_neg [] po_o po_M r (lp_E po_add po_mul po_neg [] po_o po_M r) k)
theorem po_ck0 : ∀ k, k < 2 → po_ck 0 k = true := by decide +kernel
theorem po_ck1 : ∀ k, k < 3 → po_ck 1 k = true := by decide +kernel
theorem po_ck2 : ∀ k, k < 4 → po_ck 2 k = true := by decide +kernel
theorem po_ck3 : ∀ k, k < 5 → po_ck 3 k = true := by decide +kernel
theorem po_ck4 : ∀ k, k < 6 → po_ck 4 k = true := by decide +kernel
theorem po_ck50 : po_ck 5 0 = true := by decide +kernel
theorem po_ck51 : po_ck 5 1 = true := by decide +kernel
theorem po_ck52 : po_ck 5 2 = true := by decide +kernel
theorem po_ck53 : po_ck 5 3 = true := by decide +kernel
theorem po_ck54 : po_ck 5 4 = true := by decide +kernel
theorem po_ck55 : po_ck 5 5 = true := by decide +kernel
theorem po_ck56 : po_ck 5 6 = true := by decide +kernel
theorem po_H : gk_H (po_ev ρ) po_add po_mul po_neg [] po_o (· + ·) (· * ·) (- ·) 0 1 := ⟨po_adde, po_mule, po_nege, rfl, by
  show (1 : Int) * 1 + 0 = 1
  decide⟩
abbrev zE (A : Nat → Nat → Int) (n k : Nat) : Int := lp_E (· + ·) (· * ·) (- ·) 0 1 A n k
/-- a table, its upper half read -/
def zB (A : Nat → Nat → Int) (i j : Nat) : Int := po_ev (fun x => A (x / 6) (x % 6)) (po_M i j)
theorem zB_e {A : Nat → Nat → Int} {i j : Nat} (hi : i < 6) (hj : j < 6) (sy : A i j = A j i) : zB A i j = A i j := by
  have k : ∀ x : Nat, po_ev (fun x => A (x / 6) (x % 6)) [([x], 1)] = A (x / 6) (x % 6) := fun x => by
    show 1 * (A (x / 6) (x % 6) * 1) + 0 = _
    omega
  unfold zB po_M
  rw [k]
  cases h : Nat.blt i j with
  | true =>
    show A ((6 * i + j) / 6) ((6 * i + j) % 6) = _
    rw [show (6 * i + j) / 6 = i by omega, show (6 * i + j) % 6 = j by omega]
  | false =>
    show A ((6 * j + i) / 6) ((6 * j + i) % 6) = _
    rw [show (6 * j + i) / 6 = j by omega, show (6 * j + i) % 6 = i by omega]
    exact sy.symm
theorem po_ck6 {r k : Nat} (hr : r < 6) (hk : k ≤ r + 1) : po_ck r k = true := by
  rcases (show r = 0 ∨ r = 1 ∨ r = 2 ∨ r = 3 ∨ r = 4 ∨ r = 5 by omega) with e | e | e | e | e | e
  · subst e
    exact po_ck0 k (by omega)
  · subst e
    exact po_ck1 k (by omega)
  · subst e
    exact po_ck2 k (by omega)
  · subst e
    exact po_ck3 k (by omega)
  · subst e
    exact po_ck4 k (by omega)
  · subst e
    rcases (show k = 0 ∨ k = 1 ∨ k = 2 ∨ k = 3 ∨ k = 4 ∨ k = 5 ∨ k = 6 by omega) with e | e | e | e | e | e | e
    · rw [e]
      exact po_ck50
    · rw [e]
      exact po_ck51
    · rw [e]
      exact po_ck52
    · rw [e]
      exact po_ck53
    · rw [e]
      exact po_ck54
    · rw [e]
      exact po_ck55
    · rw [e]
      exact po_ck56
theorem po_id {A : Nat → Nat → Int} {r k : Nat} (hr : r < 6) (hk : k ≤ r + 1) : zE (zB A) (r + 1) k = gk_N (· + ·) (· * ·) (- ·) 0 1 (zB A) r (zE (zB A) r) k := by
  have e := congrArg (po_ev (fun x => A (x / 6) (x % 6))) (po_bee _ _ (po_ck6 hr hk))
  rw [lp_E_h po_H, gk_N_h po_H] at e
  refine e.trans ?_
  congr 1
  funext j
  exact lp_E_h po_H
/-- the class's way gives the sums of minors -/
theorem zE_gk {A : Nat → Nat → Int} : ∀ r, r ≤ 6 → ∀ k, k ≤ r → gk_E (· + ·) (· * ·) (- ·) 0 1 (zB A) r k = zE (zB A) r k
  | 0, _, k, hk => by
    have : k = 0 := by omega
    subst this
    rfl
  | r + 1, hr, 0, _ => by
    rw [po_id (by omega) (Nat.zero_le _)]
    show (1 : Int) = 0 + 1 * zE (zB A) r 0
    rw [← zE_gk r (by omega) 0 (Nat.zero_le _)]
    cases r <;> rfl
  | r + 1, hr, k + 1, hk => by
    rw [po_id (by omega) hk]
    show gk_N (· + ·) (· * ·) (- ·) 0 1 (zB A) r (gk_E (· + ·) (· * ·) (- ·) 0 1 (zB A) r) (k + 1) = _
    unfold gk_N
    refine gk_sum_c _ (fun j hj => ?_)
    rw [zE_gk r (by omega) j (by omega)]
/-- the same with wrapping numbers -/
theorem po_H64 : gk_H Int64.ofInt (· + ·) (· * ·) (- ·) 0 1 (· + ·) (· * ·) (- ·) 0 1 := ⟨fun a b => Int64.ofInt_add a b, fun a b => Int64.ofInt_mul a b, fun a => Int64.ofInt_neg a, rfl, rfl⟩
theorem zE_64 {A : Nat → Nat → Int} {n k : Nat} : lp_E (· + ·) (· * ·) (- ·) 0 1 (fun i j => Int64.ofInt (A i j)) n k = Int64.ofInt (zE A n k) := (lp_E_h po_H64).symm
theorem gE_64 {A : Nat → Nat → Int} {r k : Nat} (hr : r ≤ 6) (hk : k ≤ r) : gk_E (· + ·) (· * ·) (- ·) 0 1 (fun i j => Int64.ofInt (zB A i j)) r k = Int64.ofInt (zE (zB A) r k) := by
  rw [← zE_gk r hr k hk]
  exact (gk_E_h po_H64 r k).symm
end PO

