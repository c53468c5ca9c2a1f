/-! ===== 84yc: which agree, which to leave out ===== -/
section MYC
variable {gK gR : mx_H} {n t c b m i : Nat} {a1 a2 a3 a4 d x y : Int32} {τ : Nat → Nat}
/-- both sides hold the same SHUTS and RATIOS -/
def ag_E (gK gR : mx_H) (τ : Nat → Nat) (n t : Nat) : Prop := n ≤ 7 ∧ n ≤ t + 1 ∧ (∀ i, i < n → gK.2.1 (.inl 83) i = nI (τ i) ∧ gR.2.1 (.inl 161) i = nI (τ i)) ∧ ∀ i, i < t → gK.2.1 (.inl 81) i = gR.2.1 (.inl 158) i ∧ gK.2.1 (.inl 82) i = gR.2.1 (.inl 159) i
theorem nI_cl {m : Nat} (h : m < 1000) : (nI m).toNatClampNeg = m := i_cl (nI_toInt (by omega))
theorem fit_e (E : ag_E gK gR τ n t) {x y z : Nat} (hx : x < t) (x7 : x < 10) (hy : y < n) (hz : z < n) : f54 (nI x) (nI y) (nI z) d gK = f275 (nI x) (nI y) (nI z) d gR := by
  obtain ⟨n7, nt, E1, E2⟩ := E
  rw [f54_eq, f275_eq, f176_eq, nI_cl (by omega), nI_cl (by omega), nI_cl (by omega), (E1 y hy).1, (E1 y hy).2, (E1 z hz).1, (E1 z hz).2, (E2 x hx).1, (E2 x hx).2, Int32.zero_sub]
theorem fit_01 : f275 a1 a2 a3 a4 gR = 0 ∨ f275 a1 a2 a3 a4 gR = 1 := by
  rw [f275_eq]
  split
  · exact Or.inl rfl
  · exact Or.inr rfl
theorem agr_e (E : ag_E gK gR τ n t) : ∀ (j k : Nat) (a : Int32), k + 1 + j = n → (g277_171 (nI n) d a (nI k) gR).1 = g55_5 (nI n) d a (nI k) gK
  | 0, k, a, e => by
    have n7 := E.1
    have w : (nI n : Int32) ≤ nI k + 1 := by
      rw [nI_s]
      exact i_le (nI_toInt (n := n) (by omega)) (nI_toInt (n := k + 1) (by omega)) (by omega)
    rw [g277_171_eq, g55_5_eq, if_pos w, if_pos w]
  | j + 1, k, a, e => by
    have n7 := E.1
    have nt := E.2.1
    have w : ¬ (nI n : Int32) ≤ nI k + 1 := by
      rw [nI_s]
      exact i_nle (nI_toInt (n := n) (by omega)) (nI_toInt (n := k + 1) (by omega)) (by omega)
    have fe := fit_e (d := d) E (show k < t by omega) (by omega) (show k < n by omega) (show k + 1 < n by omega)
    rw [g277_171_eq, g55_5_eq, if_neg w, if_neg w, nI_s, fe]
    by_cases z : f275 (nI k) (nI k) (nI (k + 1)) d gR = 0
    · rw [if_pos z, if_pos z, show a + 0 = a from Int32.add_zero a]
      exact agr_e E j (k + 1) a (by omega)
    · rw [if_neg z, if_neg z]
      exact agr_e E j (k + 1) (a + 1) (by omega)
/-! masks -/
theorem ag_b : ∀ n, n < 8 → ∀ o, o < 2 ^ n → ∀ k, k < n → (((nI o >>> (nI k &&& 31)) &&& 1 = 0) ↔ ((((1 <<< (nI n &&& 31)) - 1) &&& (nI o ^^^ (-1))) >>> (nI k &&& 31)) &&& 1 ≠ 0) := by decide +kernel
theorem ag_0 : ∀ n, n < 8 → 1 ≤ n → ((nI (2 ^ n - 2) >>> (nI 0 &&& 31)) &&& 1 = 0 ∧ ((1 : Int32) <<< (nI n &&& 31)) - 2 = nI (2 ^ n - 2) ∧ ((1 : Int32) <<< (nI n &&& 31)) - 1 = nI (2 ^ n - 1) ∧ 2 ≤ 2 ^ n ∧ 2 ^ n ≤ 128) := by decide +kernel
theorem ag_1 : ∀ n, n < 8 → ∀ k, k < n → 1 ≤ k → ¬ (nI (2 ^ n - 2) >>> (nI k &&& 31)) &&& 1 = 0 := by decide +kernel
theorem bt_c (x : Nat) (hx : x < 128) : f309 (nI x) = nI (lp_bits 7 x) := by
  rw [f309_eq]
  revert x
  decide +kernel
theorem bt_k : ∀ S, S < 128 → S ≠ 0 → (nI S &&& (nI S - 1) = nI (S &&& (S - 1)) ∧ S &&& (S - 1) < 128 ∧ lp_bits 7 (S &&& (S - 1)) + 1 = lp_bits 7 S) := by decide +kernel
theorem bt_7 : ∀ S, S < 128 → lp_bits 7 S ≤ 7 := by decide +kernel
theorem bt_r : ∀ (b S : Nat) (a1 : Int32), S < 128 → lp_bits 7 S = b → g211_4 a1 (nI S) = a1 + nI b
  | 0, S, a1, hS, hb => by
    have z : S = 0 := by
      by_cases z : S = 0
      · exact z
      · have := (bt_k S hS z).2.2
        omega
    subst z
    rw [g211_4_eq, if_pos (show nI 0 = 0 by decide)]
    exact (Int32.add_zero a1).symm
  | b + 1, S, a1, hS, hb => by
    have z : S ≠ 0 := fun z => by
      subst z
      have z7 : lp_bits 7 0 = 0 := by decide
      omega
    obtain ⟨k1, k2, k3⟩ := bt_k S hS z
    rw [g211_4_eq, if_neg (fun w => by
      have e1 := nI_toInt (n := S) (by omega)
      rw [w] at e1
      have e0 : (0 : Int32).toInt = 0 := rfl
      omega), k1, bt_r b (S &&& (S - 1)) (a1 + 1) k2 (by omega), Int32.add_assoc]
    congr 1
    rw [show (1 : Int32) = nI 1 from rfl, nI_add]
    exact congrArg nI (by omega)
theorem bt_f {S : Nat} (hS : S < 128) : f211 (nI S) = nI (lp_bits 7 S) := by
  rw [f211_eq, bt_r _ S 0 hS rfl]
  exact Int32.zero_add _
/-- whether those left agree: both sides the same -/
theorem fit_w (E : ag_E gK gR τ n t) {o : Nat} (ho : o < 2 ^ n) : ∀ (j k lf : Nat) (a5 : Int32), k + j = n → ((a5 = -1 ∧ lf = 0) ∨ (∃ l, a5 = nI l ∧ l < k ∧ 1 ≤ lf ∧ lf ≤ k)) → g57_9 (nI n) d (nI o) (nI lf) a5 (nI k) gK = g276_9 (((1 <<< (nI n &&& 31)) - 1) &&& (nI o ^^^ (-1))) (nI n) d (nI (lf - 1)) a5 (nI k) gR
  | 0, k, lf, a5, e, st => by
    have n7 := E.1
    have w : (nI n : Int32) ≤ nI k := i_le (nI_toInt (n := n) (by omega)) (nI_toInt (n := k) (by omega)) (by omega)
    rw [g57_9_eq, g276_9_eq, if_pos w, if_pos w]
  | j + 1, k, lf, a5, e, st => by
    have n7 := E.1
    have nt := E.2.1
    have w : ¬ (nI n : Int32) ≤ nI k := i_nle (nI_toInt (n := n) (by omega)) (nI_toInt (n := k) (by omega)) (by omega)
    have bb := ag_b n (by omega) o ho k (by omega)
    rw [g57_9_eq, g276_9_eq, if_neg w, if_neg w]
    by_cases z : (nI o >>> (nI k &&& 31)) &&& 1 = 0
    · rw [if_pos z, if_pos (bb.mp z)]
      rcases st with ⟨s1, s2⟩ | ⟨l, s1, s2, s3, s4⟩
      · have neg : a5 < 0 := by rw [s1]; decide
        rw [if_pos neg, if_pos neg, s2, nI_s, nI_s]
        exact fit_w E ho j (k + 1) 1 (nI k) (by omega) (Or.inr ⟨k, rfl, by omega, by omega, by omega⟩)
      · have neg : ¬ a5 < 0 := by
          rw [s1]
          exact i_nlt (nI_toInt (n := l) (by omega)) k_0 (by omega)
        have em : (nI lf : Int32) - 1 = nI (lf - 1) := i_eq (i_sub (nI_toInt (n := lf) (by omega)) k_1 (by omega) (by omega)) (nI_toInt (n := lf - 1) (by omega)) (by omega)
        have fe := fit_e (d := d) E (show lf - 1 < t by omega) (by omega) (show l < n by omega) (show k < n by omega)
        rw [if_neg neg, if_neg neg, em, s1, fe, nI_s, nI_s, nI_s, show lf - 1 + 1 = lf + 1 - 1 by omega]
        by_cases z2 : f275 (nI (lf - 1)) (nI l) (nI k) d gR ≠ 0
        · rw [if_pos z2, if_pos z2]
          exact fit_w E ho j (k + 1) (lf + 1) (nI k) (by omega) (Or.inr ⟨k, rfl, by omega, by omega, by omega⟩)
        · rw [if_neg z2, if_neg z2]
    · rw [if_neg z, if_neg (fun q => z (bb.mpr q)), nI_s]
      refine fit_w E ho j (k + 1) lf a5 (by omega) ?_
      rcases st with s | ⟨l, s1, s2, s3, s4⟩
      · exact Or.inl s
      · exact Or.inr ⟨l, s1, by omega, s3, by omega⟩
theorem fit_q (E : ag_E gK gR τ n t) {o : Nat} (ho : o < 2 ^ n) : f57 (nI n) d (nI o) gK = f276 (((1 <<< (nI n &&& 31)) - 1) &&& (nI o ^^^ (-1))) (nI n) d gR := by
  rw [f57_eq, f276_eq]
  exact fit_w E ho n 0 0 (-1) (by omega) (Or.inl ⟨rfl, rfl⟩)
/-- the first one alone always agrees -/
theorem fit_1 (n7 : n < 8) : ∀ (j k : Nat) (a4 a5 : Int32), k + j = n → 1 ≤ k → g57_9 (nI n) d (nI (2 ^ n - 2)) a4 a5 (nI k) gK = 1
  | 0, k, a4, a5, e, k1 => by rw [g57_9_eq, if_pos (i_le (nI_toInt (n := n) (by omega)) (nI_toInt (n := k) (by omega)) (by omega))]
  | j + 1, k, a4, a5, e, k1 => by
    rw [g57_9_eq, if_neg (i_nle (nI_toInt (n := n) (by omega)) (nI_toInt (n := k) (by omega)) (by omega)), if_neg (ag_1 n n7 k (by omega) k1), nI_s]
    exact fit_1 n7 j (k + 1) a4 a5 (by omega) (by omega)
theorem fit_t (n7 : n < 8) (n1 : 1 ≤ n) : f57 (nI n) d (nI (2 ^ n - 2)) gK = 1 := by
  rw [f57_eq, show (0 : Int32) = nI 0 from rfl, g57_9_eq, if_neg (i_nle (nI_toInt (n := n) (by omega)) (nI_toInt (n := 0) (by omega)) (by omega)), if_pos (ag_0 n n7 n1).1, if_pos (by decide), nI_s]
  exact fit_1 n7 (n - 1) 1 _ _ (by omega) (Nat.le_refl _)
/-- the mask that both sides find -/
def ag_m (Fit : Nat → Prop) (T M : Nat) : Prop := M ≤ T ∧ Fit M ∧ ∀ x, x ≤ T → Fit x → lp_bits 7 M < lp_bits 7 x ∨ (lp_bits 7 M = lp_bits 7 x ∧ M ≤ x)
theorem ag_mu {Fit : Nat → Prop} {T M M' : Nat} (A : ag_m Fit T M) (B : ag_m Fit T M') : M = M' := by
  have h1 := A.2.2 M' B.1 B.2.1
  have h2 := B.2.2 M A.1 A.2.1
  omega
theorem c56 (n7 : n < 8) (n1 : 1 ≤ n) : ∀ (o B : Nat) (a4 : Int32), a4.toInt = (o : Int) - 1 → o ≤ 2 ^ n - 1 → B ≤ 2 ^ n - 2 → f57 (nI n) d (nI B) gK ≠ 0 → (∀ x, o ≤ x → x ≤ 2 ^ n - 2 → f57 (nI n) d (nI x) gK ≠ 0 → lp_bits 7 B < lp_bits 7 x ∨ (lp_bits 7 B = lp_bits 7 x ∧ B ≤ x)) → ∃ M, g56_9 (nI n) d (nI B) a4 gK = nI M ∧ ag_m (fun x => f57 (nI n) d (nI x) gK ≠ 0) (2 ^ n - 2) M
  | 0, B, a4, h4, hT, hB, fB, hx => by
    rw [g56_9_eq, if_pos (i_lt h4 k_0 (by omega))]
    exact ⟨B, rfl, hB, fB, fun x h1 h2 => hx x (Nat.zero_le _) h1 h2⟩
  | o + 1, B, a4, h4, hT, hB, fB, hx => by
    have p := (ag_0 n n7 n1).2.2.2
    have e4 : a4 = nI o := i_eq h4 (nI_toInt (n := o) (by omega)) (by omega)
    have h4' : (nI o + -1 : Int32).toInt = (o : Int) - 1 := (i_add (nI_toInt (n := o) (by omega)) k_m1 (by omega) (by omega)).trans (by omega)
    have b1 := bt_7 B (by omega)
    have b2 := bt_7 o (by omega)
    rw [e4, g56_9_eq, if_neg (i_nlt (nI_toInt (n := o) (by omega)) k_0 (by omega)), bt_c B (by omega), bt_c o (by omega)]
    by_cases z : lp_bits 7 B < lp_bits 7 o
    · rw [if_pos (i_lt (nI_toInt (n := lp_bits 7 B) (by omega)) (nI_toInt (n := lp_bits 7 o) (by omega)) (by omega))]
      refine c56 n7 n1 o B _ h4' (by omega) hB fB (fun x h1 h2 h3 => ?_)
      by_cases q : x = o
      · rw [q]
        exact Or.inl z
      · exact hx x (by omega) h2 h3
    · rw [if_neg (i_nlt (nI_toInt (n := lp_bits 7 B) (by omega)) (nI_toInt (n := lp_bits 7 o) (by omega)) (by omega))]
      by_cases z2 : f57 (nI n) d (nI o) gK = 0
      · rw [if_pos z2]
        refine c56 n7 n1 o B _ h4' (by omega) hB fB (fun x h1 h2 h3 => ?_)
        by_cases q : x = o
        · rw [q] at h3
          exact absurd z2 h3
        · exact hx x (by omega) h2 h3
      · rw [if_neg z2]
        refine c56 n7 n1 o o _ h4' (by omega) (by omega) z2 (fun x h1 h2 h3 => ?_)
        by_cases q : x = o
        · rw [q]
          exact Or.inr ⟨rfl, Nat.le_refl _⟩
        · have := hx x (by omega) h2 h3
          omega
theorem r220 (E : ag_E gK gR τ n t) (n1 : 1 ≤ n) : ∀ (j o : Nat) (a6 : Int32), o + j = 2 ^ n - 1 → ((a6 = -1 ∧ ∀ x, x < o → f57 (nI n) d (nI x) gK = 0) ∨ ∃ B, a6 = nI B ∧ B < o ∧ f57 (nI n) d (nI B) gK ≠ 0 ∧ ∀ x, x < o → f57 (nI n) d (nI x) gK ≠ 0 → lp_bits 7 B < lp_bits 7 x ∨ (lp_bits 7 B = lp_bits 7 x ∧ B ≤ x)) → ∃ M, (g277_220 (nI n) d ((1 <<< (nI n &&& 31)) - 1) a6 (nI o) gR).1 = nI M ∧ ag_m (fun x => f57 (nI n) d (nI x) gK ≠ 0) (2 ^ n - 2) M
  | 0, o, a6, e, st => by
    have n7 := E.1
    obtain ⟨p0, p1, p2, p3, p4⟩ := ag_0 n (by omega) n1
    rw [g277_220_eq, if_pos (by
      rw [p2]
      exact i_le (nI_toInt (n := 2 ^ n - 1) (by omega)) (nI_toInt (n := o) (by omega)) (by omega))]
    rcases st with ⟨s1, s2⟩ | ⟨B, s1, s2, s3, s4⟩
    · have t1 := fit_t (gK := gK) (d := d) (show n < 8 by omega) n1
      rw [s2 (2 ^ n - 2) (by omega)] at t1
      exact absurd t1 (by decide)
    · exact ⟨B, s1, by omega, s3, fun x h1 h2 => s4 x (by omega) h2⟩
  | j + 1, o, a6, e, st => by
    have n7 := E.1
    obtain ⟨p0, p1, p2, p3, p4⟩ := ag_0 n (by omega) n1
    have fq := fit_q (d := d) E (show o < 2 ^ n by omega)
    have b2 := bt_7 o (by omega)
    rw [g277_220_eq, if_neg (by
      rw [p2]
      exact i_nle (nI_toInt (n := 2 ^ n - 1) (by omega)) (nI_toInt (n := o) (by omega)) (by omega)), ← fq, nI_s]
    rcases st with ⟨s1, s2⟩ | ⟨B, s1, s2, s3, s4⟩
    · rw [if_pos (by rw [s1]; decide)]
      by_cases z : f57 (nI n) d (nI o) gK = 0
      · rw [if_pos z]
        refine r220 E n1 j (o + 1) a6 (by omega) (Or.inl ⟨s1, fun x hx => ?_⟩)
        by_cases q : x = o
        · rw [q]
          exact z
        · exact s2 x (by omega)
      · rw [if_neg z]
        refine r220 E n1 j (o + 1) (nI o) (by omega) (Or.inr ⟨o, rfl, by omega, z, fun x hx h3 => ?_⟩)
        by_cases q : x = o
        · rw [q]
          exact Or.inr ⟨rfl, Nat.le_refl _⟩
        · exact absurd (s2 x (by omega)) h3
    · have b1 := bt_7 B (by omega)
      rw [s1, if_neg (i_nlt (nI_toInt (n := B) (by omega)) k_0 (by omega)), bt_f (S := B) (by omega), bt_f (S := o) (by omega)]
      by_cases z : lp_bits 7 B ≤ lp_bits 7 o
      · rw [if_pos (i_le (nI_toInt (n := lp_bits 7 B) (by omega)) (nI_toInt (n := lp_bits 7 o) (by omega)) (by omega))]
        refine r220 E n1 j (o + 1) (nI B) (by omega) (Or.inr ⟨B, rfl, by omega, s3, fun x hx h3 => ?_⟩)
        by_cases q : x = o
        · rw [q]
          omega
        · exact s4 x (by omega) h3
      · rw [if_neg (i_nle (nI_toInt (n := lp_bits 7 B) (by omega)) (nI_toInt (n := lp_bits 7 o) (by omega)) (by omega))]
        by_cases z2 : f57 (nI n) d (nI o) gK = 0
        · rw [if_pos z2]
          refine r220 E n1 j (o + 1) (nI B) (by omega) (Or.inr ⟨B, rfl, by omega, s3, fun x hx h3 => ?_⟩)
          by_cases q : x = o
          · rw [q] at h3
            exact absurd z2 h3
          · exact s4 x (by omega) h3
        · rw [if_neg z2]
          refine r220 E n1 j (o + 1) (nI o) (by omega) (Or.inr ⟨o, rfl, by omega, z2, fun x hx h3 => ?_⟩)
          by_cases q : x = o
          · rw [q]
            exact Or.inr ⟨rfl, Nat.le_refl _⟩
          · have := s4 x (by omega) h3
            omega
/-- which to leave out -/
theorem out_e (E : ag_E gK gR τ n t) (n1 : 1 ≤ n) : f56 (nI n) d gK = (g277_220 (nI n) d ((1 <<< (nI n &&& 31)) - 1) (-1) (nI 0) gR).1 := by
  have n7 := E.1
  obtain ⟨p0, p1, p2, p3, p4⟩ := ag_0 n (by omega) n1
  have t1 := fit_t (gK := gK) (d := d) (show n < 8 by omega) n1
  obtain ⟨M, m1, m2⟩ := c56 (gK := gK) (d := d) (show n < 8 by omega) n1 (2 ^ n - 1) (2 ^ n - 2) (nI (2 ^ n - 2)) ((nI_toInt (n := 2 ^ n - 2) (by omega)).trans (by omega)) (Nat.le_refl _) (Nat.le_refl _) (by rw [t1]; decide) (fun x h1 h2 => by omega)
  obtain ⟨M', m3, m4⟩ := r220 (d := d) E n1 (2 ^ n - 1) 0 (-1) (by omega) (Or.inl ⟨rfl, fun x hx => absurd hx (Nat.not_lt_zero _)⟩)
  rw [f56_eq, p1, m1, m3, ag_mu m2 m4]
end MYC
