/-! ===== toneCount of the class; Arrays.fill of ints ===== -/
section SPF
variable {E : mx_Ev} {d : Nat} {h : mx_H} {Q : Option mx_V → mx_H → Prop}
theorem sp_tonesX_l {j N : Nat} (hN : N ≤ 6) (hc : h.2.1 (.inr (j, 0)) 0 = nI N) : ∀ (k c : Nat), c + k = N → Q (some (.inl (.int (nI (sp_cnt (h.2.1 (.inr (j, 4))) 0 N))))) h →
    mx_T E (mx_fn true) d 0 0 60 4 [(0, .inr (.inr (j, 0))), (1, .inl (.int (nI (sp_cnt (h.2.1 (.inr (j, 4))) 0 c)))), (2, .inl (.int (nI c)))] [] h Q
  | 0, c, e, hQ => by
    have e : c = N := by omega
    subst e
    refine sg60_4 ⟨fun _ => hQ, fun h1 => absurd ?_ h1⟩
    rw [hc]
    exact nI_le (Nat.le_refl _) (by omega)
  | k + 1, c, e, hQ => by
    have hlt : c < N := by omega
    have ih := sp_tonesX_l hN hc k (c + 1) (by omega) hQ
    have es : sp_cnt (h.2.1 (.inr (j, 4))) 0 (c + 1) = sp_cnt (h.2.1 (.inr (j, 4))) 0 c + (if h.2.1 (.inr (j, 4)) c = 0 then 1 else 0) := by
      show sp_cnt _ _ c + (if h.2.1 (.inr (j, 4)) (0 + c) = 0 then 1 else 0) = _
      rw [Nat.zero_add]
    refine sg60_4 ⟨fun h1 => absurd h1 ?_, fun _ => ⟨vp_in_nI (by omega) (by decide), fun h2 => ?_, fun h2 => ?_⟩⟩
    · rw [hc]
      exact nI_ge hlt (by omega)
    · rw [nI_clamp (by omega)] at h2
      rw [nI_1]
      rw [if_neg h2] at es
      rw [es] at ih
      exact ih
    · rw [nI_clamp (by omega)] at h2
      rw [nI_1, nI_1]
      rw [if_pos (Classical.byContradiction h2)] at es
      rw [es] at ih
      exact ih
/-- toneCount of the class -/
theorem sp_tonesX {j N : Nat} (hN : N ≤ 6) (hc : h.2.1 (.inr (j, 0)) 0 = nI N) (hQ : Q (some (.inl (.int (nI (sp_cnt (h.2.1 (.inr (j, 4))) 0 N))))) h) : mx_C E (mx_fn true) d 60 [.inr (.inr (j, 0))] h Q :=
  sg60_0 (sp_tonesX_l hN hc N 0 (Nat.zero_add _) hQ)
/-- the heap with the first n ints of a set to v -/
def sp_fi (h : mx_H) (a : mx_A) (v : Int32) (n : Nat) : mx_H := (h.1, fun b j => if b = a ∧ j < n then v else h.2.1 b j, h.2.2.1, h.2.2.2)
theorem sp_fi_0 (h : mx_H) (a : mx_A) (v : Int32) : sp_fi h a v 0 = h := by
  obtain ⟨n, I, L, R⟩ := h
  simp [sp_fi]
theorem sp_fi_s (h : mx_H) (a : mx_A) (v : Int32) (n : Nat) : mx_uI (sp_fi h a v n) a n v = sp_fi h a v (n + 1) := by
  unfold mx_uI sp_fi mx_up
  congr 2
  funext b j
  by_cases hb : b = a
  · subst hb
    by_cases h1 : j = n
    · subst h1
      simp
    · by_cases h2 : j < n
      · simp [h1, h2, Nat.lt_succ_of_lt h2]
      · simp [h1, h2, show ¬ j < n + 1 by omega]
  · simp [hb]
theorem sp_fill_l {a : mx_A} {v : Int32} {N : Nat} (ha : mx_lo a = (100, N)) (hN : N < 10000) : ∀ (k c : Nat), c + k = N → Q none (sp_fi h a v N) →
    mx_T E (mx_fn true) d 0 0 317 5 [(0, .inr a), (1, .inl (.int v)), (2, .inl (.int (nI c))), (3, .inl (.int (nI N)))] [] (sp_fi h a v c) Q
  | 0, c, e, hQ => by
    have e : c = N := by omega
    subst e
    exact sg317_5 ⟨fun _ => hQ, fun h1 => absurd (nI_le (Nat.le_refl _) (by omega)) h1⟩
  | k + 1, c, e, hQ => by
    have ih := sp_fill_l ha hN k (c + 1) (by omega) hQ
    refine sg317_5 ⟨fun h1 => absurd h1 (nI_ge (by omega) (by omega)), fun _ => ?_⟩
    rw [ha]
    refine (show _ ∧ _ from ⟨vp_in_nI (by omega) (by show N < 2147483648; omega), ?_⟩)
    rw [nI_clamp (by omega), nI_1, sp_fi_s]
    exact ih
/-- Arrays.fill(int[], int) -/
theorem sp_fill {a : mx_A} {v : Int32} {N : Nat} (ha : mx_lo a = (100, N)) (hN : N < 10000) (hQ : Q none (sp_fi h a v N)) : mx_C E (mx_fn true) d 317 [.inr a, .inl (.int v)] h Q := by
  refine sg317_0 ?_
  rw [ha]
  have K := sp_fill_l (E := E) (d := d) ha hN N 0 (Nat.zero_add _) hQ
  rw [sp_fi_0] at K
  exact K
end SPF
