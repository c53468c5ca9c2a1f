/-! ===== questions that both sides answer alike ===== -/
section RAA
variable {h hc hr : mx_H} {S N s i j : Nat} {a x a1 a2 a3 a4 : Int32}
theorem C166 (A : rs_A hc hr S N) : (∃ s : Nat, s < S ∧ a.toInt = (s : Int) ∧ f166 a hc = some s ∧ f177 a hr = 1) ∨ (f166 a hc = none ∧ f177 a hr = 0) := by
  obtain ⟨b1, b2, b3, b4, b5, b6, b7, b8, b9, b10⟩ := A
  have e1 := i_sub b3 k_1 (by omega) (by omega)
  have e2 := i_sub b4 k_1 (by omega) (by omega)
  rw [f166_eq, f177_eq]
  by_cases q : 0 ≤ a.toInt ∧ a.toInt ≤ (S : Int) - 1
  · have ha : a.toInt = ((a.toInt.toNat : Nat) : Int) := by omega
    refine Or.inl ⟨a.toInt.toNat, by omega, ha, ?_, w173_1 rfl k_0 e2 q⟩
    rw [w157_1 rfl k_0 e1 q, if_neg n10, i_cl ha, (b9 a.toInt.toNat (by omega)).1]
    rfl
  · refine Or.inr ⟨?_, w173_0 rfl k_0 e2 q⟩
    rw [w157_0 rfl k_0 e1 q, if_pos rfl]
theorem C164 {C : Nat} (hs : a.toInt = (s : Int)) (h1 : rD hc (.inr (s, 0)) 0 = C) (h2 : rD hr (.inl 106) s = C) (C6 : C ≤ 6) : (∃ c : Nat, c < C ∧ x.toInt = (c : Int) ∧ f164 s x hc = 1 ∧ f178 a x hr = 1) ∨ (f164 s x hc = 0 ∧ f178 a x hr = 0) := by
  have e1 := i_sub h1 k_1 (by omega) (by omega)
  have e2 := i_sub h2 k_1 (by omega) (by omega)
  rw [f164_eq, f178_eq, i_cl hs]
  by_cases q : 0 ≤ x.toInt ∧ x.toInt ≤ (C : Int) - 1
  · refine Or.inl ⟨x.toInt.toNat, by omega, by omega, ?_, w173_1 rfl k_0 e2 q⟩
    rw [w157_1 rfl k_0 e1 q, if_neg n10]
  · refine Or.inr ⟨?_, w173_0 rfl k_0 e2 q⟩
    rw [w157_0 rfl k_0 e1 q, if_pos rfl]
/-- the reference counts its pieces -/
def k_bit (h : mx_H) (s i j : Nat) : Nat := if rz_g h s (6 * i + j) = true then 1 else 0
theorem R183s {m : Nat} (h1 : a1.toInt = (s : Int)) (h2 : a2.toInt = (m : Int)) (h3 : a3.toInt = (i : Int)) (h4 : a4.toInt = (j : Int)) (hs : s ≤ 12) (hi : i < 6) (hj : j < 6) (hm : m ≤ 100) (nn : ∀ p, 0 ≤ rD h (.inl 113) p) :
    ∃ b : Int32, b.toInt = ((m + k_bit h s i j : Nat) : Int) ∧ g183_15 a1 a2 a3 a4 h = g183_15 a1 b a3 (a4 + 1) h := by
  have w := w179 h1 h3 h4 hs hi hj
  rw [g183_15_eq, if_neg (i_nle k_6 h4 (by omega)), f180_eq, i_cl w]
  have n := nn (36 * s + 6 * i + j)
  unfold k_bit rz_g
  rw [show 36 * s + (6 * i + j) = 36 * s + 6 * i + j by omega]
  by_cases z : h.2.1 (.inl 113) (36 * s + 6 * i + j) = 0
  · refine ⟨a2 + 0, ?_, ?_⟩
    · rw [if_neg (by rw [decide_eq_true_iff]; exact fun t => t z), i_add h2 k_0 (by omega) (by omega)]
      omega
    · rw [z, if_pos (show (0 : Int32) ≤ 0 by decide), if_pos rfl]
  · refine ⟨a2 + 1, ?_, ?_⟩
    · rw [if_pos (by rw [decide_eq_true_iff]; exact z), i_add h2 k_1 (by omega) (by omega)]
      omega
    · have p : ¬ h.2.1 (.inl 113) (36 * s + 6 * i + j) ≤ 0 := fun t => by
        have := Int32.le_iff_toInt_le.mp t
        rw [k_0] at this
        unfold rD at n
        exact z (i_eq (show (h.2.1 (.inl 113) (36 * s + 6 * i + j)).toInt = 0 by omega) k_0 rfl)
      rw [if_neg p, if_neg n10]
def k_row (h : mx_H) (s i : Nat) : Nat → Nat → Nat
  | 0, _ => 0
  | n + 1, j => k_bit h s i j + k_row h s i n (j + 1)
theorem k_bit_1 {h : mx_H} {s i j : Nat} : k_bit h s i j ≤ 1 := by
  unfold k_bit
  split <;> omega
theorem R183r (h1 : a1.toInt = (s : Int)) (h3 : a3.toInt = (i : Int)) (hs : s ≤ 12) (hi : i < 6) (nn : ∀ p, 0 ≤ rD h (.inl 113) p) : ∀ (n j m : Nat) (a2 a4 : Int32), j + n = 6 → m + n ≤ 100 → a2.toInt = (m : Int) → a4.toInt = (j : Int) → ∃ b : Int32, b.toInt = ((m + k_row h s i n j : Nat) : Int) ∧ m + k_row h s i n j ≤ m + n ∧ g183_15 a1 a2 a3 a4 h = g183_4 a1 b (a3 + 1) h
  | 0, j, m, a2, a4, e, hm, h2, h4 => ⟨a2, h2, Nat.le_refl _, by rw [g183_15_eq, if_pos (i_le k_6 h4 (by omega))]⟩
  | n + 1, j, m, a2, a4, e, hm, h2, h4 => by
    obtain ⟨b, b1, b2⟩ := R183s (a2 := a2) h1 h2 h3 h4 hs hi (by omega) (by omega) nn
    have l := k_bit_1 (h := h) (s := s) (i := i) (j := j)
    obtain ⟨d, d1, d2, d3⟩ := R183r h1 h3 hs hi nn n (j + 1) (m + k_bit h s i j) b (a4 + 1) (by omega) (by omega) b1 ((i_add h4 k_1 (by omega) (by omega)).trans (by omega))
    refine ⟨d, ?_, ?_, b2.trans d3⟩
    · rw [d1, show k_row h s i (n + 1) j = k_bit h s i j + k_row h s i n (j + 1) from rfl]
      omega
    · rw [show k_row h s i (n + 1) j = k_bit h s i j + k_row h s i n (j + 1) from rfl]
      omega
end RAA
