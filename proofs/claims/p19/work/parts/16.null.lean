/-! ===== the two that may be given null for a shape ===== -/
theorem sg164_null {E : mx_Ev} {d : Nat} {h : mx_H} {Q : Option mx_V → mx_H → Prop} {a1 : Int32}
    (H : ((0 : Int32) = 0 ∨ (0 : Int32) = 1) ∧ (Q (some (.inl (.int 0))) h)) :
    mx_T E (mx_fn true) (d + 1) 0 0 164 0 [(0, .inl .null), (1, .inl (.int a1))] [] h Q := mx_wp_sound (cuts := []) mx_ok164 15 H mx_tbe164
theorem sg165_null {E : mx_Ev} {d : Nat} {h : mx_H} {Q : Option mx_V → mx_H → Prop} {a1 : Int32} {a2 : Int32}
    (H : ((0 : Int32) = 0 ∨ (0 : Int32) = 1) ∧ (Q (some (.inl (.int 0))) h)) :
    mx_T E (mx_fn true) (d + 1) 0 0 165 0 [(0, .inl .null), (1, .inl (.int a1)), (2, .inl (.int a2))] [] h Q := mx_wp_sound (cuts := []) mx_ok165 20 H mx_tbe165
/-! ===== shift, cut at its arraycopy (byte 129) ===== -/
set_option maxRecDepth 100000 in
theorem sg154_0 {E : mx_Ev} {d : Nat} {h : mx_H} {Q : Option mx_V → mx_H → Prop} {a1 : Int32} {a2 : Int32} {a3 : Int32} {a4 : Int32} {a5 : Int32}
    (H : mx_C E (mx_fn true) d 161 [.inl (.int a1)] h (fun v1 h2 => ∀ x3, v1 = some (.inl (.int x3)) → (((x3 = 0) → (Q (some (.inl (.int (-1)))) h2)) ∧ (¬ (x3 = 0) → (mx_C E (mx_fn true) d 161 [.inl (.int a3)] h2 (fun v4 h5 => ∀ x6, v4 = some (.inl (.int x6)) → (((x6 ≠ 0) → ((vp_in a1 6) ∧ ((((h5.2.1 (.inl 95) (Int32.toNatClampNeg a1)) = (-2)) → (Q (some (.inl (.int (-11)))) h5)) ∧ (¬ ((h5.2.1 (.inl 95) (Int32.toNatClampNeg a1)) = (-2)) → ((vp_in a3 6) ∧ ((((h5.2.1 (.inl 95) (Int32.toNatClampNeg a3)) ≠ (-2)) → ((((h5.2.1 (.inl 95) (Int32.toNatClampNeg a1)) = (-1)) → (Q (some (.inl (.int (-12)))) h5)) ∧ (¬ ((h5.2.1 (.inl 95) (Int32.toNatClampNeg a1)) = (-1)) → ((vp_in a3 6) ∧ ((((h5.2.1 (.inl 95) (Int32.toNatClampNeg a1)) = (h5.2.1 (.inl 95) (Int32.toNatClampNeg a3))) → (mx_C E (mx_fn true) d 75 [.inr (.inl 94), .inl (.int a1), .inl (.int a2), .inl (.int a5)] h5 (fun v7 h8 => ∀ x9, v7 = some (.inl (.int x9)) → (((x9 = 0) → (Q (some (.inl (.int (-13)))) h8)) ∧ (¬ (x9 = 0) → (mx_C E (mx_fn true) d 75 [.inr (.inl 94), .inl (.int a3), .inl (.int a4), .inl (.int a5)] h8 (fun v10 h11 => ∀ x12, v10 = some (.inl (.int x12)) → (((x12 ≠ 0) → ((vp_in a1 6) ∧ (mx_fn true (.inl 98) (Int32.toNatClampNeg a1) = some (.inr ((Int32.toNatClampNeg a1), 20))) ∧ ((vp_in a3 6) ∧ (mx_fn true (.inl 98) (Int32.toNatClampNeg a3) = some (.inr ((Int32.toNatClampNeg a3), 20))) ∧ (mx_T E (mx_fn true) (d + 1) 0 0 154 129 [(5, .inl (.int a5))] [.inl (.int a5), .inl (.int a4), .inr (.inr ((Int32.toNatClampNeg a3), 20)), .inl (.int a2), .inr (.inr ((Int32.toNatClampNeg a1), 20))] h11 Q)))) ∧ (¬ (x12 ≠ 0) → (Q (some (.inl (.int (-13)))) h11)))))))))) ∧ (¬ ((h5.2.1 (.inl 95) (Int32.toNatClampNeg a1)) = (h5.2.1 (.inl 95) (Int32.toNatClampNeg a3))) → (Q (some (.inl (.int (-12)))) h5))))))) ∧ (¬ ((h5.2.1 (.inl 95) (Int32.toNatClampNeg a3)) ≠ (-2)) → (Q (some (.inl (.int (-11)))) h5)))))))) ∧ (¬ (x6 ≠ 0) → (Q (some (.inl (.int (-1)))) h5))))))))) :
    mx_T E (mx_fn true) (d + 1) 0 0 154 0 [(0, .inr (.inl 0)), (1, .inl (.int a1)), (2, .inl (.int a2)), (3, .inl (.int a3)), (4, .inl (.int a4)), (5, .inl (.int a5))] [] h Q := mx_wp_sound (cuts := [(129, [5])]) mx_ok154 71 H mx_tbe154
set_option maxRecDepth 100000 in
theorem sg154_132 {E : mx_Ev} {d : Nat} {h : mx_H} {Q : Option mx_V → mx_H → Prop} {a5 : Int32}
    (H : Q (some (.inl (.int a5))) h) :
    mx_T E (mx_fn true) (d + 1) 0 0 154 132 [(5, .inl (.int a5))] [] h Q := mx_wp_sound (cuts := [(129, [5])]) mx_ok154 71 H mx_tbe154
/-! ===== what the methods do: leaves (a spec hands its answer to Q; the heap stays where nothing is said) ===== -/
theorem sp_vin {i : Int32} {n : Nat} (h0 : 0 ≤ i) (h1 : i.toNatClampNeg < n) : vp_in i n := fun h => h.elim (fun h => absurd h0 (Int32.not_le.mpr h)) (fun h => absurd h1 (Nat.not_lt.mpr h))
theorem sp_01 {p : Prop} [Decidable p] : (if p then (1 : Int32) else 0) = 0 ∨ (if p then (1 : Int32) else 0) = 1 := by
  by_cases h : p
  · exact Or.inr (if_pos h)
  · exact Or.inl (if_neg h)
theorem sp_b0 {p : Prop} [Decidable p] (h : (if p then (1 : Int32) else 0) = 0) : ¬ p := fun q => by
  rw [if_pos q] at h
  exact absurd h (by decide)
theorem sp_b1 {p : Prop} [Decidable p] (h : ¬ (if p then (1 : Int32) else 0) = 0) : p := Classical.byContradiction fun q => h (if_neg q)
section SPA
variable {E : mx_Ev} {d : Nat} {h : mx_H} {Q : Option mx_V → mx_H → Prop}
/-- PlatesSing.within -/
theorem sp_within {a0 a1 a2 : Int32} (hQ : Q (some (.inl (.int (if a1 ≤ a0 ∧ a0 ≤ a2 then 1 else 0)))) h) : mx_C E (mx_fn true) d 157 [.inl (.int a0), .inl (.int a1), .inl (.int a2)] h Q := by
  refine sg157_0 ⟨fun h1 => ⟨Or.inl rfl, ?_⟩, fun h1 => ⟨fun h2 => ⟨Or.inl rfl, ?_⟩, fun h2 => ⟨Or.inr rfl, ?_⟩⟩⟩
  · rw [if_neg (fun q => absurd h1 (Int32.not_lt.mpr q.1))] at hQ
    exact hQ
  · rw [if_neg (fun q => absurd h2 (Int32.not_lt.mpr q.2))] at hQ
    exact hQ
  · rw [if_pos ⟨Int32.not_lt.mp h1, Int32.not_lt.mp h2⟩] at hQ
    exact hQ
/-- the reference's in -/
theorem sp_in {a0 a1 a2 : Int32} (hQ : Q (some (.inl (.int (if a1 ≤ a0 ∧ a0 ≤ a2 then 1 else 0)))) h) : mx_C E (mx_fn true) d 173 [.inl (.int a0), .inl (.int a1), .inl (.int a2)] h Q := by
  refine sg173_0 ⟨fun h1 => ⟨Or.inl rfl, ?_⟩, fun h1 => ⟨fun h2 => ⟨Or.inl rfl, ?_⟩, fun h2 => ⟨Or.inr rfl, ?_⟩⟩⟩
  · rw [if_neg (fun q => absurd h1 (Int32.not_lt.mpr q.1))] at hQ
    exact hQ
  · rw [if_neg (fun q => absurd h2 (Int32.not_lt.mpr q.2))] at hQ
    exact hQ
  · rw [if_pos ⟨Int32.not_lt.mp h1, Int32.not_lt.mp h2⟩] at hQ
    exact hQ
theorem sp_lesser {a0 a1 : Int32} (hQ : Q (some (.inl (.int (if a1 ≤ a0 then a1 else a0)))) h) : mx_C E (mx_fn true) d 174 [.inl (.int a0), .inl (.int a1)] h Q :=
  sg174_0 ⟨fun h1 => by rw [if_pos h1] at hQ; exact hQ, fun h1 => by rw [if_neg h1] at hQ; exact hQ⟩
theorem sp_greater {a0 a1 : Int32} (hQ : Q (some (.inl (.int (if a0 ≤ a1 then a1 else a0)))) h) : mx_C E (mx_fn true) d 175 [.inl (.int a0), .inl (.int a1)] h Q :=
  sg175_0 ⟨fun h1 => by rw [if_pos h1] at hQ; exact hQ, fun h1 => by rw [if_neg h1] at hQ; exact hQ⟩
theorem sp_sizeOf {a0 : Int32} (hQ : Q (some (.inl (.int (if 0 ≤ a0 then a0 else -a0)))) h) : mx_C E (mx_fn true) d 176 [.inl (.int a0)] h Q :=
  sg176_0 ⟨fun h1 => by rw [if_pos h1] at hQ; exact hQ, fun h1 => by rw [if_neg h1] at hQ; exact hQ⟩
theorem sp_at {a0 a1 a2 : Int32} (hQ : Q (some (.inl (.int (36 * a0 + 6 * a1 + a2)))) h) : mx_C E (mx_fn true) d 179 [.inl (.int a0), .inl (.int a1), .inl (.int a2)] h Q := sg179_0 hQ
theorem sp_massOf {a0 a1 : Int32} (hQ : Q (some (.inl (.int (if a0 + a1 ≤ 9 then a0 + a1 else 9)))) h) : mx_C E (mx_fn true) d 207 [.inl (.int a0), .inl (.int a1)] h Q :=
  sg207_0 ⟨fun h1 => by rw [if_pos h1] at hQ; exact hQ, fun h1 => by rw [if_neg h1] at hQ; exact hQ⟩
/-- isShape of the reference -/
theorem sp_isShape {a1 : Int32} (hQ : Q (some (.inl (.int (if 0 ≤ a1 ∧ a1 ≤ h.2.1 (.inl 105) 1 - 1 then 1 else 0)))) h) : mx_C E (mx_fn true) (d + 1) 177 [.inr (.inl 105), .inl (.int a1)] h Q := by
  refine sg177_0 (sp_in ?_)
  intro x hx
  cases hx
  exact ⟨sp_01, hQ⟩
/-- isCorner of the reference -/
theorem sp_isCornerM {a1 a2 : Int32} (hin : vp_in a1 13) (hQ : Q (some (.inl (.int (if 0 ≤ a2 ∧ a2 ≤ h.2.1 (.inl 106) a1.toNatClampNeg - 1 then 1 else 0)))) h) : mx_C E (mx_fn true) (d + 1) 178 [.inr (.inl 105), .inl (.int a1), .inl (.int a2)] h Q := by
  refine sg178_0 ⟨hin, sp_in ?_⟩
  intro x hx
  cases hx
  exact ⟨sp_01, hQ⟩
/-- hasPiece of the reference -/
theorem sp_hasPiece {a1 a2 a3 : Int32} (hin : vp_in (36 * a1 + 6 * a2 + a3) 468) (hQ : Q (some (.inl (.int (if h.2.1 (.inl 113) (36 * a1 + 6 * a2 + a3).toNatClampNeg ≤ 0 then 0 else 1)))) h) : mx_C E (mx_fn true) (d + 1) 180 [.inr (.inl 105), .inl (.int a1), .inl (.int a2), .inl (.int a3)] h Q := by
  refine sg180_0 (sp_at ?_)
  intro x hx
  cases hx
  refine ⟨hin, fun h1 => ⟨Or.inl rfl, ?_⟩, fun h1 => ⟨Or.inr rfl, ?_⟩⟩
  · rw [if_pos h1] at hQ
    exact hQ
  · rw [if_neg h1] at hQ
    exact hQ
/-- isCorner of the class, of a shape that is there -/
theorem sp_isCornerX {j : Nat} {a1 : Int32} (hQ : Q (some (.inl (.int (if 0 ≤ a1 ∧ a1 ≤ h.2.1 (.inr (j, 0)) 0 - 1 then 1 else 0)))) h) : mx_C E (mx_fn true) (d + 1) 164 [.inr (.inr (j, 0)), .inl (.int a1)] h Q := by
  refine sg164_0 (sp_within ?_)
  intro x hx
  cases hx
  refine ⟨fun h1 => ⟨Or.inl rfl, ?_⟩, fun h1 => ⟨Or.inr rfl, ?_⟩⟩
  · rw [if_neg (sp_b0 h1)] at hQ
    exact hQ
  · rw [if_pos (sp_b1 h1)] at hQ
    exact hQ
/-- Net.linkOf -/
theorem sp_linkOf {t : Nat} {a1 a2 : Int32} (hin : vp_in (6 * a1 + a2) 36) (hQ : Q (some (.inl (.int (h.2.1 (.inr (t, 34)) (6 * a1 + a2).toNatClampNeg)))) h) : mx_C E (mx_fn true) d 27 [.inr (.inr (t, 30)), .inl (.int a1), .inl (.int a2)] h Q := sg27_0 ⟨hin, hQ⟩
end SPA
/-! ===== TONES: how many corners of a shape are free, by both ===== -/
/-- how many of f b .. f (b + n - 1) are 0 -/
def sp_cnt (f : Nat → Int32) (b : Nat) : Nat → Nat
  | 0 => 0
  | n + 1 => sp_cnt f b n + (if f (b + n) = 0 then 1 else 0)
theorem sp_cnt_le (f : Nat → Int32) (b : Nat) : ∀ n, sp_cnt f b n ≤ n
  | 0 => Nat.le_refl _
  | n + 1 => by
    have h := sp_cnt_le f b n
    unfold sp_cnt
    split <;> omega
theorem nI_mul (a b : Nat) : nI a * nI b = nI (a * b) := (Int32.ofNat_mul a b).symm
theorem nI_6 (a b : Nat) : 6 * nI a + nI b = nI (6 * a + b) := by
  rw [show (6 : Int32) = nI 6 from rfl, nI_mul, nI_add]
section SPT
variable {E : mx_Ev} {d : Nat} {h : mx_H} {Q : Option mx_V → mx_H → Prop}
/-- tonesOf of the reference: the loop -/
theorem sp_tonesM_l {S N : Nat} (hS : S < 12) (hN : N ≤ 6) (hc : h.2.1 (.inl 106) S = nI N) : ∀ (k c : Nat), c + k = N → Q (some (.inl (.int (nI (sp_cnt (h.2.1 (.inl 110)) (6 * S) N))))) h →
    mx_T E (mx_fn true) d 0 0 195 4 [(0, .inr (.inl 105)), (1, .inl (.int (nI S))), (2, .inl (.int (nI (sp_cnt (h.2.1 (.inl 110)) (6 * S) c)))), (3, .inl (.int (nI c)))] [] h Q
  | 0, c, e, hQ => by
    have e : c = N := by omega
    subst e
    refine sg195_4 ⟨vp_in_nI (Nat.lt_succ_of_lt hS) (by decide), fun _ => hQ, fun h1 => absurd ?_ h1⟩
    rw [nI_clamp (by omega), hc]
    exact nI_le (Nat.le_refl _) (by omega)
  | k + 1, c, e, hQ => by
    have hlt : c < N := by omega
    have ih := sp_tonesM_l hS hN hc k (c + 1) (by omega) hQ
    refine sg195_4 ⟨vp_in_nI (Nat.lt_succ_of_lt hS) (by decide), fun h1 => absurd h1 ?_, fun _ => ⟨?_, fun h2 => ?_, fun h2 => ?_⟩⟩
    · rw [nI_clamp (by omega), hc]
      exact nI_ge hlt (by omega)
    · rw [nI_6]
      exact vp_in_nI (by omega) (by decide)
    · rw [nI_6, nI_clamp (by omega)] at h2
      rw [nI_1, nI_1]
      have e2 : sp_cnt (h.2.1 (.inl 110)) (6 * S) (c + 1) = sp_cnt (h.2.1 (.inl 110)) (6 * S) c + 1 := by
        show sp_cnt _ _ c + (if _ then 1 else 0) = _
        rw [if_pos h2]
      rw [← e2]
      exact ih
    · rw [nI_6, nI_clamp (by omega)] at h2
      rw [nI_1, show (0 : Int32) = nI 0 from rfl, nI_add]
      have e2 : sp_cnt (h.2.1 (.inl 110)) (6 * S) (c + 1) = sp_cnt (h.2.1 (.inl 110)) (6 * S) c + 0 := by
        show sp_cnt _ _ c + (if _ then 1 else 0) = _
        rw [if_neg h2]
      rw [← e2]
      exact ih
/-- tonesOf of the reference -/
theorem sp_tonesM {S N : Nat} (hS : S < 12) (hN : N ≤ 6) (hc : h.2.1 (.inl 106) S = nI N) (hQ : Q (some (.inl (.int (nI (sp_cnt (h.2.1 (.inl 110)) (6 * S) N))))) h) : mx_C E (mx_fn true) d 195 [.inr (.inl 105), .inl (.int (nI S))] h Q :=
  sg195_0 (sp_tonesM_l hS hN hc N 0 (Nat.zero_add _) hQ)
end SPT
/-! ===== toneCount of the class; Arrays.fill of ints ===== -/
section SPF
variable {E : mx_Ev} {d : Nat} {h : mx_H} {Q : Option mx_V → mx_H → Prop}
theorem sp_tonesX_l {j N : Nat} (hN : N ≤ 6) (hc : h.2.1 (.inr (j, 0)) 0 = nI N) : ∀ (k c : Nat), c + k = N → Q (some (.inl (.int (nI (sp_cnt (h.2.1 (.inr (j, 4))) 0 N))))) h →
    mx_T E (mx_fn true) d 0 0 60 4 [(0, .inr (.inr (j, 0))), (1, .inl (.int (nI (sp_cnt (h.2.1 (.inr (j, 4))) 0 c)))), (2, .inl (.int (nI c)))] [] h Q
  | 0, c, e, hQ => by
    have e : c = N := by omega
    subst e
    refine sg60_4 ⟨fun _ => hQ, fun h1 => absurd ?_ h1⟩
    rw [hc]
    exact nI_le (Nat.le_refl _) (by omega)
  | k + 1, c, e, hQ => by
    have hlt : c < N := by omega
    have ih := sp_tonesX_l hN hc k (c + 1) (by omega) hQ
    have es : sp_cnt (h.2.1 (.inr (j, 4))) 0 (c + 1) = sp_cnt (h.2.1 (.inr (j, 4))) 0 c + (if h.2.1 (.inr (j, 4)) c = 0 then 1 else 0) := by
      show sp_cnt _ _ c + (if h.2.1 (.inr (j, 4)) (0 + c) = 0 then 1 else 0) = _
      rw [Nat.zero_add]
    refine sg60_4 ⟨fun h1 => absurd h1 ?_, fun _ => ⟨vp_in_nI (by omega) (by decide), fun h2 => ?_, fun h2 => ?_⟩⟩
    · rw [hc]
      exact nI_ge hlt (by omega)
    · rw [nI_clamp (by omega)] at h2
      rw [nI_1]
      rw [if_neg h2] at es
      rw [es] at ih
      exact ih
    · rw [nI_clamp (by omega)] at h2
      rw [nI_1, nI_1]
      rw [if_pos (Classical.byContradiction h2)] at es
      rw [es] at ih
      exact ih
/-- toneCount of the class -/
theorem sp_tonesX {j N : Nat} (hN : N ≤ 6) (hc : h.2.1 (.inr (j, 0)) 0 = nI N) (hQ : Q (some (.inl (.int (nI (sp_cnt (h.2.1 (.inr (j, 4))) 0 N))))) h) : mx_C E (mx_fn true) d 60 [.inr (.inr (j, 0))] h Q :=
  sg60_0 (sp_tonesX_l hN hc N 0 (Nat.zero_add _) hQ)
/-- the heap with the first n ints of a set to v -/
def sp_fi (h : mx_H) (a : mx_A) (v : Int32) (n : Nat) : mx_H := (h.1, fun b j => if b = a ∧ j < n then v else h.2.1 b j, h.2.2.1, h.2.2.2)
theorem sp_fi_0 (h : mx_H) (a : mx_A) (v : Int32) : sp_fi h a v 0 = h := by
  obtain ⟨n, I, L, R⟩ := h
  simp [sp_fi]
theorem sp_fi_s (h : mx_H) (a : mx_A) (v : Int32) (n : Nat) : mx_uI (sp_fi h a v n) a n v = sp_fi h a v (n + 1) := by
  unfold mx_uI sp_fi mx_up
  congr 2
  funext b j
  by_cases hb : b = a
  · subst hb
    by_cases h1 : j = n
    · subst h1
      simp
    · by_cases h2 : j < n
      · simp [h1, h2, Nat.lt_succ_of_lt h2]
      · simp [h1, h2, show ¬ j < n + 1 by omega]
  · simp [hb]
theorem sp_fill_l {a : mx_A} {v : Int32} {N : Nat} (ha : mx_lo a = (100, N)) (hN : N < 10000) : ∀ (k c : Nat), c + k = N → Q none (sp_fi h a v N) →
    mx_T E (mx_fn true) d 0 0 317 5 [(0, .inr a), (1, .inl (.int v)), (2, .inl (.int (nI c))), (3, .inl (.int (nI N)))] [] (sp_fi h a v c) Q
  | 0, c, e, hQ => by
    have e : c = N := by omega
    subst e
    exact sg317_5 ⟨fun _ => hQ, fun h1 => absurd (nI_le (Nat.le_refl _) (by omega)) h1⟩
  | k + 1, c, e, hQ => by
    have ih := sp_fill_l ha hN k (c + 1) (by omega) hQ
    refine sg317_5 ⟨fun h1 => absurd h1 (nI_ge (by omega) (by omega)), fun _ => ?_⟩
    rw [ha]
    refine (show _ ∧ _ from ⟨vp_in_nI (by omega) (by show N < 2147483648; omega), ?_⟩)
    rw [nI_clamp (by omega), nI_1, sp_fi_s]
    exact ih
/-- Arrays.fill(int[], int) -/
theorem sp_fill {a : mx_A} {v : Int32} {N : Nat} (ha : mx_lo a = (100, N)) (hN : N < 10000) (hQ : Q none (sp_fi h a v N)) : mx_C E (mx_fn true) d 317 [.inr a, .inl (.int v)] h Q := by
  refine sg317_0 ?_
  rw [ha]
  have K := sp_fill_l (E := E) (d := d) ha hN N 0 (Nat.zero_add _) hQ
  rw [sp_fi_0] at K
  exact K
end SPF
/-! ===== constructors, run by program: what they leave is computed ===== -/
noncomputable def mx_tc (mid : Nat) : List (Nat × List mx_En) := match mid with
  | 1 => mx_t1 | 11 => mx_t11 | 16 => mx_t16 | 21 => mx_t21 | 36 => mx_t36 | 42 => mx_t42 | 52 => mx_t52 | 58 => mx_t58 | 69 => mx_t69 | 84 => mx_t84 | 95 => mx_t95 | 101 => mx_t101 | 172 => mx_t172
  | _ => []
theorem mx_tc_ok (mid : Nat) : ∀ q ∈ mx_tc mid, ∀ en ∈ q.2, mx_gd mid en := by
  unfold mx_tc
  split
  · exact mx_ok1
  · exact mx_ok11
  · exact mx_ok16
  · exact mx_ok21
  · exact mx_ok36
  · exact mx_ok42
  · exact mx_ok52
  · exact mx_ok58
  · exact mx_ok69
  · exact mx_ok84
  · exact mx_ok95
  · exact mx_ok101
  · exact mx_ok172
  · exact fun q hq => absurd hq List.not_mem_nil
def mx_pkd (ci k : Nat) (v : mx_V) : Bool := match mx_ff ci k, v with
  | 0, .inl (.int _) => true
  | 2, .inr _ => true
  | 2, .inl .null => true
  | _, _ => false
theorem mx_pkd_s {ci k : Nat} {v : mx_V} {P : Prop} (h : mx_pkd ci k v = true) (hP : P) : mx_pkb ci k v P := by
  unfold mx_pkd at h
  unfold mx_pkb
  split at h <;> first | (cases h; done) | simp_all
/-- one instruction of a constructor -/
def mx_exi (rec : Nat → Nat → Nat → Nat → Nat → mx_Lv → List mx_V → mx_H → Option mx_H) (d bc bs mid pc : Nat) (ins : Instr) (a b : Nat) (c : Int32) (lv : mx_Lv) (st : List mx_V) (h : mx_H) : Option mx_H := match ins with
  | .iconst _ => rec d bc bs mid (pc + 1) lv (.inl (.int c) :: st) h
  | .bipush _ => rec d bc bs mid (pc + 2) lv (.inl (.int c) :: st) h
  | .sipush _ => rec d bc bs mid (pc + 3) lv (.inl (.int c) :: st) h
  | .aload_n n => match mx_get lv n.val with
    | some x => bif mx_isr x then rec d bc bs mid (pc + 1) lv (x :: st) h else none
    | none => none
  | .dup => match st with
    | x :: r => bif Nat.beq (mx_cat x) 1 then rec d bc bs mid (pc + 1) lv (x :: x :: r) h else none
    | _ => none
  | .return_ => match st with
    | [] => some h
    | _ => none
  | .iastore => match st with
    | .inl (.int y) :: .inl (.int i) :: .inr x :: r => bif Nat.beq (mx_lo x).1 100 && (decide (0 ≤ i) && Nat.blt i.toNatClampNeg (mx_lo x).2) then rec d bc bs mid (pc + 1) lv r (mx_uI h x i.toNatClampNeg y) else none
    | _ => none
  | .putfield _ => match st with
    | v :: .inr x :: r => bif (mx_lo x == (a, (mx_cr a).2.2)) && mx_pkd a b v then rec d bc bs mid (pc + 3) lv r (mx_pf h x b v) else none
    | _ => none
  | .new _ => bif (Nat.ble 1 bc && Nat.ble (mx_cr a).2.2 bs) && (mx_lo (mx_adr h.1) == (a, (mx_cr a).2.2)) then rec d (bc - 1) (bs - (mx_cr a).2.2) mid (pc + 3) lv (.inr (mx_adr h.1) :: st) (mx_nw h (mx_adr h.1)) else none
  | .newarray t => match st with
    | .inl (.int n) :: r => bif (Nat.ble 1 bc && Nat.ble n.toNatClampNeg bs && Nat.ble n.toNatClampNeg 60000) && (decide (¬ n < 0) && (mx_lo (mx_adr h.1) == (100 + mx_ak t, n.toNatClampNeg))) then rec d (bc - 1) (bs - n.toNatClampNeg) mid (pc + 2) lv (.inr (mx_adr h.1) :: r) (mx_nw h (mx_adr h.1)) else none
    | _ => none
  | .anewarray _ => match st with
    | .inl (.int n) :: r => bif (Nat.ble 1 bc && Nat.ble n.toNatClampNeg bs && Nat.ble n.toNatClampNeg 60000) && (decide (¬ n < 0) && (mx_lo (mx_adr h.1) == (104, n.toNatClampNeg))) then rec d (bc - 1) (bs - n.toNatClampNeg) mid (pc + 3) lv (.inr (mx_adr h.1) :: r) (mx_nw h (mx_adr h.1)) else none
    | _ => none
  | .invokespecial _ => match d with
    | 0 => none
    | e + 1 => bif Nat.beq a 1000 then (match st with
        | .inr _ :: r => bif Nat.ble ((r.map mx_cat).sum) 8 then rec (e + 1) bc bs mid (pc + 3) lv r h else none
        | _ => none)
      else (match st with
        | .inr x :: r => bif Nat.beq b 0 && (Nat.ble (1 + 0) (mx_nL a) && Nat.ble ((r.map mx_cat).sum) 8 && Nat.ble (mx_bu a).1 bc && Nat.ble (mx_bu a).2 bs) && (mx_rt a).isNone then
            (match rec e (mx_bu a).1 (mx_bu a).2 a 0 [(0, .inr x)] [] h with
              | some h1 => rec (e + 1) (bc - (mx_bu a).1) (bs - (mx_bu a).2) mid (pc + 3) lv r h1
              | none => none)
          else none
        | _ => none)
  | _ => none
noncomputable def mx_ex : Nat → Nat → Nat → Nat → Nat → Nat → mx_Lv → List mx_V → mx_H → Option mx_H
  | 0, _, _, _, _, _, _, _, _ => none
  | k + 1, d, bc, bs, mid, pc, lv, st, h => match mx_ft (mx_tc mid) pc with
    | some (_, ins, _, a, b, _, c, _) => mx_exi (mx_ex k) d bc bs mid pc ins a b c lv st h
    | none => match st with
      | .inl (.int y) :: .inl (.int x) :: r => bif Nat.beq mid 69 && (Nat.beq pc 63 && (Nat.beq h.1 98 && (Nat.ble 7 bc && (Nat.ble 366 bs && (decide (y = 60) && decide (x = 6)))))) then mx_ex k d (bc - 7) (bs - 366) mid (pc + 4) lv (.inr (.inl 98) :: r) (mx_mnh h) else none
      | _ => none
theorem mx_bif {b : Bool} {x : Option mx_H} {h' : mx_H} (h : (bif b then x else none) = some h') : b = true ∧ x = some h' := by
  cases b
  · cases h
  · exact ⟨rfl, h⟩
theorem mx_if_i {b : Bool} {P : Prop} (h : b = true) (p : P) : mx_if b P := by
  subst h
  exact p
set_option maxHeartbeats 4000000 in
theorem mx_ex_sound {E : mx_Ev} : ∀ (k : Nat) {d bc bs mid pc : Nat} {lv : mx_Lv} {st : List mx_V} {h h' : mx_H} {Q : Option mx_V → mx_H → Prop}, mx_ex k d bc bs mid pc lv st h = some h' → Q none h' → mx_T0 E (mx_fn false) d bc bs mid pc lv st h Q
  | 0, _, _, _, _, _, _, _, _, _, _, hx, _ => by cases hx
  | k + 1, d, bc, bs, mid, pc, lv, st, h, h', Q, hx, hQ => by
    unfold mx_ex at hx
    split at hx
    · next pc2 ins len a b z c l hf =>
      obtain ⟨rfl, q, hq, he⟩ := mx_ft_mem hf
      obtain ⟨g1, g2⟩ := mx_tc_ok mid q hq _ he
      refine mx_one_sound (CC := mx_C0 E (mx_fn false)) (κ := fun bc bs pc lv st h => mx_ex k d bc bs mid pc lv st h = some h') (TT := fun bc bs pc lv st h => mx_T0 E (mx_fn false) d bc bs mid pc lv st h Q) g1 g2 (fun bc bs pc lv st h q => mx_ex_sound k q hQ) (fun _ _ _ _ _ _ q => q) (fun _ _ _ _ _ q => q) ?_
      clear g1 g2 he hq hf
      unfold mx_exi at hx
      split at hx
      · exact hx
      · exact hx
      · exact hx
      · split at hx
        · next x hg =>
          simp only [mx_one, hg]
          exact mx_if_i (mx_bif hx).1 (mx_bif hx).2
        · cases hx
      · split at hx
        · exact mx_if_i (mx_bif hx).1 (mx_bif hx).2
        · cases hx
      · split at hx
        · cases hx
          exact hQ
        · cases hx
      · split at hx
        · obtain ⟨b1, b2⟩ := mx_bif hx
          simp only [Bool.and_eq_true] at b1
          exact mx_if_i b1.1 ⟨sp_vin (of_decide_eq_true b1.2.1) (Nat.blt_eq.mp b1.2.2), b2⟩
        · cases hx
      · split at hx
        · obtain ⟨b1, b2⟩ := mx_bif hx
          simp only [Bool.and_eq_true] at b1
          exact mx_if_i b1.1 (mx_pkd_s b1.2 b2)
        · cases hx
      · obtain ⟨b1, b2⟩ := mx_bif hx
        rw [Bool.and_eq_true] at b1
        exact mx_if_i b1.1 ⟨_, mx_pos_adr _, mx_va_adr _, eq_of_beq b1.2, b2⟩
      · split at hx
        · obtain ⟨b1, b2⟩ := mx_bif hx
          rw [Bool.and_eq_true] at b1
          obtain ⟨b3, b4⟩ := b1
          rw [Bool.and_eq_true] at b4
          exact mx_if_i b3 ⟨of_decide_eq_true b4.1, _, mx_pos_adr _, mx_va_adr _, eq_of_beq b4.2, b2⟩
        · cases hx
      · split at hx
        · obtain ⟨b1, b2⟩ := mx_bif hx
          rw [Bool.and_eq_true] at b1
          obtain ⟨b3, b4⟩ := b1
          rw [Bool.and_eq_true] at b4
          exact mx_if_i b3 ⟨of_decide_eq_true b4.1, _, mx_pos_adr _, mx_va_adr _, eq_of_beq b4.2, b2⟩
        · cases hx
      · split at hx
        · cases hx
        · next e =>
          simp only [mx_one]
          cases h1000 : Nat.beq a 1000 with
          | true =>
            rw [h1000, cond_true] at hx
            split at hx
            · exact mx_if_i (mx_bif hx).1 (mx_bif hx).2
            · cases hx
          | false =>
            rw [h1000, cond_false] at hx
            split at hx
            · obtain ⟨b1, b2⟩ := mx_bif hx
              simp only [Bool.and_eq_true] at b1
              obtain ⟨⟨b3, ⟨⟨b4, b5⟩, b6⟩, b7⟩, b8⟩ := b1
              have hb0 := Nat.eq_of_beq_eq_true b3
              subst hb0
              split at b2
              · next h1 hc =>
                refine mx_if_i (by simp only [Bool.and_eq_true]; exact ⟨⟨⟨⟨rfl, b4⟩, b5⟩, b6⟩, b7⟩) ?_
                refine mx_ex_sound k hc ?_
                have hrt : mx_rt _ = none := Option.isNone_iff_eq_none.mp b8
                rw [hrt]
                intro _
                exact b2
              · cases b2
            · cases hx
      · cases hx
    · split at hx
      · obtain ⟨b1, b2⟩ := mx_bif hx
        simp only [Bool.and_eq_true, decide_eq_true_eq] at b1
        obtain ⟨c1, c2, c3, c4, c5, rfl, rfl⟩ := b1
        have e1 := Nat.eq_of_beq_eq_true c1
        have e2 := Nat.eq_of_beq_eq_true c2
        subst e1
        subst e2
        exact mx_mna (by decide +kernel : decode (mx_by 69) 63 = .ok (.multianewarray 21 2, 4)) mx_mnw.1 mx_mnw.2 (Nat.eq_of_beq_eq_true c3) (Nat.le_of_ble_eq_true c4) (Nat.le_of_ble_eq_true c5) (mx_ex_sound k b2 hQ)
      · cases hx
