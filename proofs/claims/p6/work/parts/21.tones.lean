/-! ===== TONES: how many corners of a shape are free, by both ===== -/
/-- how many of f b .. f (b + n - 1) are 0 -/
def sp_cnt (f : Nat → Int32) (b : Nat) : Nat → Nat
  | 0 => 0
  | n + 1 => sp_cnt f b n + (if f (b + n) = 0 then 1 else 0)
theorem sp_cnt_le (f : Nat → Int32) (b : Nat) : ∀ n, sp_cnt f b n ≤ n
  | 0 => Nat.le_refl _
  | n + 1 => by
    have h := sp_cnt_le f b n
    unfold sp_cnt
    split <;> omega
theorem nI_mul (a b : Nat) : nI a * nI b = nI (a * b) := (Int32.ofNat_mul a b).symm
theorem nI_6 (a b : Nat) : 6 * nI a + nI b = nI (6 * a + b) := by
  rw [show (6 : Int32) = nI 6 from rfl, nI_mul, nI_add]
section SPT
variable {E : mx_Ev} {d : Nat} {h : mx_H} {Q : Option mx_V → mx_H → Prop}
/-- tonesOf of the reference: the loop -/
theorem sp_tonesM_l {S N : Nat} (hS : S < 12) (hN : N ≤ 6) (hc : h.2.1 (.inl 106) S = nI N) : ∀ (k c : Nat), c + k = N → Q (some (.inl (.int (nI (sp_cnt (h.2.1 (.inl 110)) (6 * S) N))))) h →
    mx_T E (mx_fn true) d 0 0 195 4 [(0, .inr (.inl 105)), (1, .inl (.int (nI S))), (2, .inl (.int (nI (sp_cnt (h.2.1 (.inl 110)) (6 * S) c)))), (3, .inl (.int (nI c)))] [] h Q
  | 0, c, e, hQ => by
    have e : c = N := by omega
    subst e
    refine sg195_4 ⟨vp_in_nI (Nat.lt_succ_of_lt hS) (by decide), fun _ => hQ, fun h1 => absurd ?_ h1⟩
    rw [nI_clamp (by omega), hc]
    exact nI_le (Nat.le_refl _) (by omega)
  | k + 1, c, e, hQ => by
    have hlt : c < N := by omega
    have ih := sp_tonesM_l hS hN hc k (c + 1) (by omega) hQ
    refine sg195_4 ⟨vp_in_nI (Nat.lt_succ_of_lt hS) (by decide), fun h1 => absurd h1 ?_, fun _ => ⟨?_, fun h2 => ?_, fun h2 => ?_⟩⟩
    · rw [nI_clamp (by omega), hc]
      exact nI_ge hlt (by omega)
    · rw [nI_6]
      exact vp_in_nI (by omega) (by decide)
    · rw [nI_6, nI_clamp (by omega)] at h2
      rw [nI_1, nI_1]
      have e2 : sp_cnt (h.2.1 (.inl 110)) (6 * S) (c + 1) = sp_cnt (h.2.1 (.inl 110)) (6 * S) c + 1 := by
        show sp_cnt _ _ c + (if _ then 1 else 0) = _
        rw [if_pos h2]
      rw [← e2]
      exact ih
    · rw [nI_6, nI_clamp (by omega)] at h2
      rw [nI_1, show (0 : Int32) = nI 0 from rfl, nI_add]
      have e2 : sp_cnt (h.2.1 (.inl 110)) (6 * S) (c + 1) = sp_cnt (h.2.1 (.inl 110)) (6 * S) c + 0 := by
        show sp_cnt _ _ c + (if _ then 1 else 0) = _
        rw [if_neg h2]
      rw [← e2]
      exact ih
/-- tonesOf of the reference -/
theorem sp_tonesM {S N : Nat} (hS : S < 12) (hN : N ≤ 6) (hc : h.2.1 (.inl 106) S = nI N) (hQ : Q (some (.inl (.int (nI (sp_cnt (h.2.1 (.inl 110)) (6 * S) N))))) h) : mx_C E (mx_fn true) d 195 [.inr (.inl 105), .inl (.int (nI S))] h Q :=
  sg195_0 (sp_tonesM_l hS hN hc N 0 (Nat.zero_add _) hQ)
end SPT
