/-! ===== the two that may be given null for a shape ===== -/
theorem sg164_null {E : mx_Ev} {d : Nat} {h : mx_H} {Q : Option mx_V → mx_H → Prop} {a1 : Int32}
    (H : ((0 : Int32) = 0 ∨ (0 : Int32) = 1) ∧ (Q (some (.inl (.int 0))) h)) :
    mx_T E (mx_fn true) (d + 1) 0 0 164 0 [(0, .inl .null), (1, .inl (.int a1))] [] h Q := mx_wp_sound (cuts := []) mx_ok164 15 H mx_tbe164
theorem sg165_null {E : mx_Ev} {d : Nat} {h : mx_H} {Q : Option mx_V → mx_H → Prop} {a1 : Int32} {a2 : Int32}
    (H : ((0 : Int32) = 0 ∨ (0 : Int32) = 1) ∧ (Q (some (.inl (.int 0))) h)) :
    mx_T E (mx_fn true) (d + 1) 0 0 165 0 [(0, .inl .null), (1, .inl (.int a1)), (2, .inl (.int a2))] [] h Q := mx_wp_sound (cuts := []) mx_ok165 20 H mx_tbe165
/-! ===== shift, cut at its arraycopy (byte 129) ===== -/
set_option maxRecDepth 100000 in
theorem sg154_0 {E : mx_Ev} {d : Nat} {h : mx_H} {Q : Option mx_V → mx_H → Prop} {a1 : Int32} {a2 : Int32} {a3 : Int32} {a4 : Int32} {a5 : Int32}
    (H : mx_C E (mx_fn true) d 161 [.inl (.int a1)] h (fun v1 h2 => ∀ x3, v1 = some (.inl (.int x3)) → (((x3 = 0) → (Q (some (.inl (.int (-1)))) h2)) ∧ (¬ (x3 = 0) → (mx_C E (mx_fn true) d 161 [.inl (.int a3)] h2 (fun v4 h5 => ∀ x6, v4 = some (.inl (.int x6)) → (((x6 ≠ 0) → ((vp_in a1 6) ∧ ((((h5.2.1 (.inl 95) (Int32.toNatClampNeg a1)) = (-2)) → (Q (some (.inl (.int (-11)))) h5)) ∧ (¬ ((h5.2.1 (.inl 95) (Int32.toNatClampNeg a1)) = (-2)) → ((vp_in a3 6) ∧ ((((h5.2.1 (.inl 95) (Int32.toNatClampNeg a3)) ≠ (-2)) → ((((h5.2.1 (.inl 95) (Int32.toNatClampNeg a1)) = (-1)) → (Q (some (.inl (.int (-12)))) h5)) ∧ (¬ ((h5.2.1 (.inl 95) (Int32.toNatClampNeg a1)) = (-1)) → ((vp_in a3 6) ∧ ((((h5.2.1 (.inl 95) (Int32.toNatClampNeg a1)) = (h5.2.1 (.inl 95) (Int32.toNatClampNeg a3))) → (mx_C E (mx_fn true) d 75 [.inr (.inl 94), .inl (.int a1), .inl (.int a2), .inl (.int a5)] h5 (fun v7 h8 => ∀ x9, v7 = some (.inl (.int x9)) → (((x9 = 0) → (Q (some (.inl (.int (-13)))) h8)) ∧ (¬ (x9 = 0) → (mx_C E (mx_fn true) d 75 [.inr (.inl 94), .inl (.int a3), .inl (.int a4), .inl (.int a5)] h8 (fun v10 h11 => ∀ x12, v10 = some (.inl (.int x12)) → (((x12 ≠ 0) → ((vp_in a1 6) ∧ (mx_fn true (.inl 98) (Int32.toNatClampNeg a1) = some (.inr ((Int32.toNatClampNeg a1), 20))) ∧ ((vp_in a3 6) ∧ (mx_fn true (.inl 98) (Int32.toNatClampNeg a3) = some (.inr ((Int32.toNatClampNeg a3), 20))) ∧ (mx_T E (mx_fn true) (d + 1) 0 0 154 129 [(5, .inl (.int a5))] [.inl (.int a5), .inl (.int a4), .inr (.inr ((Int32.toNatClampNeg a3), 20)), .inl (.int a2), .inr (.inr ((Int32.toNatClampNeg a1), 20))] h11 Q)))) ∧ (¬ (x12 ≠ 0) → (Q (some (.inl (.int (-13)))) h11)))))))))) ∧ (¬ ((h5.2.1 (.inl 95) (Int32.toNatClampNeg a1)) = (h5.2.1 (.inl 95) (Int32.toNatClampNeg a3))) → (Q (some (.inl (.int (-12)))) h5))))))) ∧ (¬ ((h5.2.1 (.inl 95) (Int32.toNatClampNeg a3)) ≠ (-2)) → (Q (some (.inl (.int (-11)))) h5)))))))) ∧ (¬ (x6 ≠ 0) → (Q (some (.inl (.int (-1)))) h5))))))))) :
    mx_T E (mx_fn true) (d + 1) 0 0 154 0 [(0, .inr (.inl 0)), (1, .inl (.int a1)), (2, .inl (.int a2)), (3, .inl (.int a3)), (4, .inl (.int a4)), (5, .inl (.int a5))] [] h Q := mx_wp_sound (cuts := [(129, [5])]) mx_ok154 71 H mx_tbe154
set_option maxRecDepth 100000 in
theorem sg154_132 {E : mx_Ev} {d : Nat} {h : mx_H} {Q : Option mx_V → mx_H → Prop} {a5 : Int32}
    (H : Q (some (.inl (.int a5))) h) :
    mx_T E (mx_fn true) (d + 1) 0 0 154 132 [(5, .inl (.int a5))] [] h Q := mx_wp_sound (cuts := [(129, [5])]) mx_ok154 71 H mx_tbe154
/-! ===== what the methods do: leaves (a spec hands its answer to Q; the heap stays where nothing is said) ===== -/
theorem sp_vin {i : Int32} {n : Nat} (h0 : 0 ≤ i) (h1 : i.toNatClampNeg < n) : vp_in i n := fun h => h.elim (fun h => absurd h0 (Int32.not_le.mpr h)) (fun h => absurd h1 (Nat.not_lt.mpr h))
theorem sp_01 {p : Prop} [Decidable p] : (if p then (1 : Int32) else 0) = 0 ∨ (if p then (1 : Int32) else 0) = 1 := by
  by_cases h : p
  · exact Or.inr (if_pos h)
  · exact Or.inl (if_neg h)
theorem sp_b0 {p : Prop} [Decidable p] (h : (if p then (1 : Int32) else 0) = 0) : ¬ p := fun q => by
  rw [if_pos q] at h
  exact absurd h (by decide)
theorem sp_b1 {p : Prop} [Decidable p] (h : ¬ (if p then (1 : Int32) else 0) = 0) : p := Classical.byContradiction fun q => h (if_neg q)
section SPA
variable {E : mx_Ev} {d : Nat} {h : mx_H} {Q : Option mx_V → mx_H → Prop}
/-- PlatesSing.within -/
theorem sp_within {a0 a1 a2 : Int32} (hQ : Q (some (.inl (.int (if a1 ≤ a0 ∧ a0 ≤ a2 then 1 else 0)))) h) : mx_C E (mx_fn true) d 157 [.inl (.int a0), .inl (.int a1), .inl (.int a2)] h Q := by
  refine sg157_0 ⟨fun h1 => ⟨Or.inl rfl, ?_⟩, fun h1 => ⟨fun h2 => ⟨Or.inl rfl, ?_⟩, fun h2 => ⟨Or.inr rfl, ?_⟩⟩⟩
  · rw [if_neg (fun q => absurd h1 (Int32.not_lt.mpr q.1))] at hQ
    exact hQ
  · rw [if_neg (fun q => absurd h2 (Int32.not_lt.mpr q.2))] at hQ
    exact hQ
  · rw [if_pos ⟨Int32.not_lt.mp h1, Int32.not_lt.mp h2⟩] at hQ
    exact hQ
/-- the reference's in -/
theorem sp_in {a0 a1 a2 : Int32} (hQ : Q (some (.inl (.int (if a1 ≤ a0 ∧ a0 ≤ a2 then 1 else 0)))) h) : mx_C E (mx_fn true) d 173 [.inl (.int a0), .inl (.int a1), .inl (.int a2)] h Q := by
  refine sg173_0 ⟨fun h1 => ⟨Or.inl rfl, ?_⟩, fun h1 => ⟨fun h2 => ⟨Or.inl rfl, ?_⟩, fun h2 => ⟨Or.inr rfl, ?_⟩⟩⟩
  · rw [if_neg (fun q => absurd h1 (Int32.not_lt.mpr q.1))] at hQ
    exact hQ
  · rw [if_neg (fun q => absurd h2 (Int32.not_lt.mpr q.2))] at hQ
    exact hQ
  · rw [if_pos ⟨Int32.not_lt.mp h1, Int32.not_lt.mp h2⟩] at hQ
    exact hQ
theorem sp_lesser {a0 a1 : Int32} (hQ : Q (some (.inl (.int (if a1 ≤ a0 then a1 else a0)))) h) : mx_C E (mx_fn true) d 174 [.inl (.int a0), .inl (.int a1)] h Q :=
  sg174_0 ⟨fun h1 => by rw [if_pos h1] at hQ; exact hQ, fun h1 => by rw [if_neg h1] at hQ; exact hQ⟩
theorem sp_greater {a0 a1 : Int32} (hQ : Q (some (.inl (.int (if a0 ≤ a1 then a1 else a0)))) h) : mx_C E (mx_fn true) d 175 [.inl (.int a0), .inl (.int a1)] h Q :=
  sg175_0 ⟨fun h1 => by rw [if_pos h1] at hQ; exact hQ, fun h1 => by rw [if_neg h1] at hQ; exact hQ⟩
theorem sp_sizeOf {a0 : Int32} (hQ : Q (some (.inl (.int (if 0 ≤ a0 then a0 else -a0)))) h) : mx_C E (mx_fn true) d 176 [.inl (.int a0)] h Q :=
  sg176_0 ⟨fun h1 => by rw [if_pos h1] at hQ; exact hQ, fun h1 => by rw [if_neg h1] at hQ; exact hQ⟩
theorem sp_at {a0 a1 a2 : Int32} (hQ : Q (some (.inl (.int (36 * a0 + 6 * a1 + a2)))) h) : mx_C E (mx_fn true) d 179 [.inl (.int a0), .inl (.int a1), .inl (.int a2)] h Q := sg179_0 hQ
theorem sp_massOf {a0 a1 : Int32} (hQ : Q (some (.inl (.int (if a0 + a1 ≤ 9 then a0 + a1 else 9)))) h) : mx_C E (mx_fn true) d 207 [.inl (.int a0), .inl (.int a1)] h Q :=
  sg207_0 ⟨fun h1 => by rw [if_pos h1] at hQ; exact hQ, fun h1 => by rw [if_neg h1] at hQ; exact hQ⟩
/-- isShape of the reference -/
theorem sp_isShape {a1 : Int32} (hQ : Q (some (.inl (.int (if 0 ≤ a1 ∧ a1 ≤ h.2.1 (.inl 105) 1 - 1 then 1 else 0)))) h) : mx_C E (mx_fn true) (d + 1) 177 [.inr (.inl 105), .inl (.int a1)] h Q := by
  refine sg177_0 (sp_in ?_)
  intro x hx
  cases hx
  exact ⟨sp_01, hQ⟩
/-- isCorner of the reference -/
theorem sp_isCornerM {a1 a2 : Int32} (hin : vp_in a1 13) (hQ : Q (some (.inl (.int (if 0 ≤ a2 ∧ a2 ≤ h.2.1 (.inl 106) a1.toNatClampNeg - 1 then 1 else 0)))) h) : mx_C E (mx_fn true) (d + 1) 178 [.inr (.inl 105), .inl (.int a1), .inl (.int a2)] h Q := by
  refine sg178_0 ⟨hin, sp_in ?_⟩
  intro x hx
  cases hx
  exact ⟨sp_01, hQ⟩
/-- hasPiece of the reference -/
theorem sp_hasPiece {a1 a2 a3 : Int32} (hin : vp_in (36 * a1 + 6 * a2 + a3) 468) (hQ : Q (some (.inl (.int (if h.2.1 (.inl 113) (36 * a1 + 6 * a2 + a3).toNatClampNeg ≤ 0 then 0 else 1)))) h) : mx_C E (mx_fn true) (d + 1) 180 [.inr (.inl 105), .inl (.int a1), .inl (.int a2), .inl (.int a3)] h Q := by
  refine sg180_0 (sp_at ?_)
  intro x hx
  cases hx
  refine ⟨hin, fun h1 => ⟨Or.inl rfl, ?_⟩, fun h1 => ⟨Or.inr rfl, ?_⟩⟩
  · rw [if_pos h1] at hQ
    exact hQ
  · rw [if_neg h1] at hQ
    exact hQ
/-- isCorner of the class, of a shape that is there -/
theorem sp_isCornerX {j : Nat} {a1 : Int32} (hQ : Q (some (.inl (.int (if 0 ≤ a1 ∧ a1 ≤ h.2.1 (.inr (j, 0)) 0 - 1 then 1 else 0)))) h) : mx_C E (mx_fn true) (d + 1) 164 [.inr (.inr (j, 0)), .inl (.int a1)] h Q := by
  refine sg164_0 (sp_within ?_)
  intro x hx
  cases hx
  refine ⟨fun h1 => ⟨Or.inl rfl, ?_⟩, fun h1 => ⟨Or.inr rfl, ?_⟩⟩
  · rw [if_neg (sp_b0 h1)] at hQ
    exact hQ
  · rw [if_pos (sp_b1 h1)] at hQ
    exact hQ
/-- Net.linkOf -/
theorem sp_linkOf {t : Nat} {a1 a2 : Int32} (hin : vp_in (6 * a1 + a2) 36) (hQ : Q (some (.inl (.int (h.2.1 (.inr (t, 34)) (6 * a1 + a2).toNatClampNeg)))) h) : mx_C E (mx_fn true) d 27 [.inr (.inr (t, 30)), .inl (.int a1), .inl (.int a2)] h Q := sg27_0 ⟨hin, hQ⟩
end SPA
/-! ===== TONES: how many corners of a shape are free, by both ===== -/
/-- how many of f b .. f (b + n - 1) are 0 -/
def sp_cnt (f : Nat → Int32) (b : Nat) : Nat → Nat
  | 0 => 0
  | n + 1 => sp_cnt f b n + (if f (b + n) = 0 then 1 else 0)
theorem sp_cnt_le (f : Nat → Int32) (b : Nat) : ∀ n, sp_cnt f b n ≤ n
  | 0 => Nat.le_refl _
  | n + 1 => by
    have h := sp_cnt_le f b n
    unfold sp_cnt
    split <;> omega
theorem nI_mul (a b : Nat) : nI a * nI b = nI (a * b) := (Int32.ofNat_mul a b).symm
theorem nI_6 (a b : Nat) : 6 * nI a + nI b = nI (6 * a + b) := by
  rw [show (6 : Int32) = nI 6 from rfl, nI_mul, nI_add]
section SPT
variable {E : mx_Ev} {d : Nat} {h : mx_H} {Q : Option mx_V → mx_H → Prop}
/-- tonesOf of the reference: the loop -/
theorem sp_tonesM_l {S N : Nat} (hS : S < 12) (hN : N ≤ 6) (hc : h.2.1 (.inl 106) S = nI N) : ∀ (k c : Nat), c + k = N → Q (some (.inl (.int (nI (sp_cnt (h.2.1 (.inl 110)) (6 * S) N))))) h →
    mx_T E (mx_fn true) d 0 0 195 4 [(0, .inr (.inl 105)), (1, .inl (.int (nI S))), (2, .inl (.int (nI (sp_cnt (h.2.1 (.inl 110)) (6 * S) c)))), (3, .inl (.int (nI c)))] [] h Q
  | 0, c, e, hQ => by
    have e : c = N := by omega
    subst e
    refine sg195_4 ⟨vp_in_nI (Nat.lt_succ_of_lt hS) (by decide), fun _ => hQ, fun h1 => absurd ?_ h1⟩
    rw [nI_clamp (by omega), hc]
    exact nI_le (Nat.le_refl _) (by omega)
  | k + 1, c, e, hQ => by
    have hlt : c < N := by omega
    have ih := sp_tonesM_l hS hN hc k (c + 1) (by omega) hQ
    refine sg195_4 ⟨vp_in_nI (Nat.lt_succ_of_lt hS) (by decide), fun h1 => absurd h1 ?_, fun _ => ⟨?_, fun h2 => ?_, fun h2 => ?_⟩⟩
    · rw [nI_clamp (by omega), hc]
      exact nI_ge hlt (by omega)
    · rw [nI_6]
      exact vp_in_nI (by omega) (by decide)
    · rw [nI_6, nI_clamp (by omega)] at h2
      rw [nI_1, nI_1]
      have e2 : sp_cnt (h.2.1 (.inl 110)) (6 * S) (c + 1) = sp_cnt (h.2.1 (.inl 110)) (6 * S) c + 1 := by
        show sp_cnt _ _ c + (if _ then 1 else 0) = _
        rw [if_pos h2]
      rw [← e2]
      exact ih
    · rw [nI_6, nI_clamp (by omega)] at h2
      rw [nI_1, show (0 : Int32) = nI 0 from rfl, nI_add]
      have e2 : sp_cnt (h.2.1 (.inl 110)) (6 * S) (c + 1) = sp_cnt (h.2.1 (.inl 110)) (6 * S) c + 0 := by
        show sp_cnt _ _ c + (if _ then 1 else 0) = _
        rw [if_neg h2]
      rw [← e2]
      exact ih
/-- tonesOf of the reference -/
theorem sp_tonesM {S N : Nat} (hS : S < 12) (hN : N ≤ 6) (hc : h.2.1 (.inl 106) S = nI N) (hQ : Q (some (.inl (.int (nI (sp_cnt (h.2.1 (.inl 110)) (6 * S) N))))) h) : mx_C E (mx_fn true) d 195 [.inr (.inl 105), .inl (.int (nI S))] h Q :=
  sg195_0 (sp_tonesM_l hS hN hc N 0 (Nat.zero_add _) hQ)
end SPT
