/-! ===== a draft becomes a shape, on both sides ===== -/
section RM
variable {h hc hr : mx_H} {S N n C k : Nat}
theorem adn {m o : Nat} (hm : m = 167 + 9 * S + o) (ho : o < 9) : mx_adr m = .inr (S + 1, o) := by
  have e := mx_adr_pos (a := (.inr (S + 1, o) : mx_A)) (Or.inl ho)
  rw [mx_pos_s _ ho, if_neg (by omega)] at e
  rw [show m = 158 + 9 * (S + 1) + o by omega]
  exact e
theorem x_val_s {α β : Type} {p q : α} {f : α → β} {R : β} (e : p = q) (k : f q = R) : x_val p f = R := by
  rw [e]
  exact k
theorem C58 (hn : h.1 = 167 + 9 * S + 1) : f58 (.inr (S + 1, 0)) h = sn_h h (S + 1) := by
  rw [f58_eq]
  refine x_val_s (adn (S := S) (o := 1) (show h.1 = 167 + 9 * S + 1 from hn) (by decide)) ?_
  refine x_val_s (adn (S := S) (o := 2) (show h.1 + 1 = 167 + 9 * S + 2 by omega) (by decide)) ?_
  refine x_val_s (adn (S := S) (o := 3) (show h.1 + 1 + 1 = 167 + 9 * S + 3 by omega) (by decide)) ?_
  refine x_val_s (adn (S := S) (o := 4) (show h.1 + 1 + 1 + 1 = 167 + 9 * S + 4 by omega) (by decide)) ?_
  refine x_val_s (adn (S := S) (o := 5) (show h.1 + 1 + 1 + 1 + 1 = 167 + 9 * S + 5 by omega) (by decide)) ?_
  refine x_val_s (adn (S := S) (o := 6) (show h.1 + 1 + 1 + 1 + 1 + 1 = 167 + 9 * S + 6 by omega) (by decide)) ?_
  refine x_val_s (adn (S := S) (o := 7) (show h.1 + 1 + 1 + 1 + 1 + 1 + 1 = 167 + 9 * S + 7 by omega) (by decide)) ?_
  refine x_val_s (adn (S := S) (o := 8) (show h.1 + 1 + 1 + 1 + 1 + 1 + 1 + 1 = 167 + 9 * S + 8 by omega) (by decide)) ?_
  rfl
/-- a body more -/
def k_b (h : mx_H) (N S : Nat) : mx_H := mx_uI (mx_uR (mx_uI h (.inl 91) N 1) (.inl 92) N (some (.inr (S, 0)))) (.inl 90) 0 (h.2.1 (.inl 90) 0 + 1)
theorem C37 (hN : rD h (.inl 90) 0 = N) (n2 : N < 200) : (f37 1 S h).2 = k_b h N S := by
  rw [f37_eq, if_pos (i_lt hN k_200 (by omega))]
  show mx_uI (mx_uR (mx_uI h (.inl 91) (Int32.toNatClampNeg (h.2.1 (.inl 90) 0)) 1) (.inl 92) (Int32.toNatClampNeg (h.2.1 (.inl 90) 0)) (some (.inr (S, 0)))) (.inl 90) 0 (h.2.1 (.inl 90) 0 + 1) = _
  rw [i_cl hN]
  rfl
/-- what bodies do: nothing else -/
def k_B (h g : mx_H) (N M S : Nat) : Prop := g.1 = h.1 ∧ (∀ q i, g.2.1 (.inr q) i = h.2.1 (.inr q) i) ∧ (∀ k i, k ≠ 90 → k ≠ 91 → g.2.1 (.inl k) i = h.2.1 (.inl k) i) ∧ rD g (.inl 90) 0 = M ∧ (∀ k i, k ≠ 92 → g.2.2.2 (.inl k) i = h.2.2.2 (.inl k) i) ∧
  (∀ i, i < N → g.2.1 (.inl 91) i = h.2.1 (.inl 91) i ∧ g.2.2.2 (.inl 92) i = h.2.2.2 (.inl 92) i) ∧ ∀ i, N ≤ i → i < M → g.2.1 (.inl 91) i = 1 ∧ g.2.2.2 (.inl 92) i = some (.inr (S, 0))
theorem k_B.b {g : mx_H} {M : Nat} (B : k_B h g N M S) (hM : M < 200) (NM : N ≤ M) : k_B h (k_b g M S) N (M + 1) S := by
  obtain ⟨b1, b2, b3, b4, b5, b6, b7⟩ := B
  have r91 : ∀ i, (k_b g M S).2.1 (.inl 91) i = if i = M then 1 else g.2.1 (.inl 91) i := fun i => by
    show (mx_uI g (.inl 91) M 1).2.1 (.inl 91) i = _
    by_cases e : i = M
    · rw [if_pos e, rI_c rfl e]
    · rw [if_neg e, rI_i e]
  have r92 : ∀ i, (k_b g M S).2.2.2 (.inl 92) i = if i = M then some (.inr (S, 0)) else g.2.2.2 (.inl 92) i := fun i => by
    show (if (Sum.inl 92 : mx_A) = .inl 92 ∧ i = M then some (.inr (S, 0)) else g.2.2.2 (.inl 92) i) = _
    by_cases e : i = M
    · rw [if_pos e, if_pos ⟨rfl, e⟩]
    · rw [if_neg e, if_neg (fun q => e q.2)]
  refine ⟨b1, b2, fun k i q1 q2 => ?_, ?_, fun k i q => ?_, fun i hi => ?_, fun i h1 h2 => ?_⟩
  · show (mx_uI (mx_uR (mx_uI g (.inl 91) M 1) (.inl 92) M (some (.inr (S, 0)))) (.inl 90) 0 (g.2.1 (.inl 90) 0 + 1)).2.1 (.inl k) i = _
    rw [rN q1]
    show (mx_uI g (.inl 91) M 1).2.1 (.inl k) i = _
    rw [rN q2]
    exact b3 k i q1 q2
  · show (g.2.1 (.inl 90) 0 + 1).toInt = _
    rw [i_add b4 k_1 (by omega) (by omega)]
    omega
  · show (if (Sum.inl k : mx_A) = .inl 92 ∧ i = M then some (.inr (S, 0)) else g.2.2.2 (.inl k) i) = _
    rw [if_neg (fun e => q (Sum.inl.inj e.1))]
    exact b5 k i q
  · rw [r91, r92, if_neg (by omega), if_neg (by omega)]
    exact b6 i hi
  · rw [r91, r92]
    by_cases e : i = M
    · rw [if_pos e, if_pos e]
      exact ⟨rfl, rfl⟩
    · rw [if_neg e, if_neg e]
      exact b7 i h1 (by omega)
/-- the new shape's heap -/
def k_G (g : mx_H) (S : Nat) : mx_H := mx_uI (mx_uR g (.inl 3) S (some (.inr (S, 0)))) (.inl 0) 2 (g.2.1 (.inl 0) 2 + 1)
def k_N (g : mx_H) (S : Nat) : mx_H := mx_uR (sn_f (k_G g S) (S + 1)) (.inl 0) 3 (some (.inr (S + 1, 0)))
theorem C169g (S11 : S ≤ 11) : ∀ (j k : Nat) (a1 : Int32) {h g : mx_H}, k + j = n → a1.toInt = (k : Int) → n ≤ 15 → N + n ≤ 200 → rD h (.inr (S, 0)) 6 = n → h.2.2.2 (.inl 0) 3 = some (.inr (S, 0)) → rD h (.inl 0) 2 = S → h.1 = 167 + 9 * S → k_B h g N (N + k) S →
    ∃ g', k_B h g' N (N + n) S ∧ g169_16 a1 g = (g'.2.1 (.inl 0) 2 + 1 - 1, k_N g' S)
  | j, k, a1, h, g, e, ha, n15, nn, hp, hd, hs, h1, B => by
    have p6 : rD g (.inr (S, 0)) 6 = n := by
      unfold rD
      rw [B.2.1]
      exact hp
    have d3 : g.2.2.2 (.inl 0) 3 = some (.inr (S, 0)) := by
      rw [B.2.2.2.2.1 0 3 (by decide)]
      exact hd
    have s2 : rD g (.inl 0) 2 = S := by
      unfold rD
      rw [B.2.2.1 0 2 (by decide) (by decide)]
      exact hs
    have g1 : g.1 = 167 + 9 * S := B.1.trans h1
    rw [g169_16_eq, d3]
    match j, e with
    | 0, e =>
      refine ⟨g, (show N + k = N + n by omega) ▸ B, ?_⟩
      show (if g.2.1 (.inr (S, 0)) 6 ≤ a1 then (x_val (mx_adr (mx_uI (mx_uR g (.inl 3) (Int32.toNatClampNeg (g.2.1 (.inl 0) 2)) (some (.inr (S, 0)))) (.inl 0) 2 (g.2.1 (.inl 0) 2 + 1)).1) (fun y3 => x_h (f58 y3 (mx_nw (mx_uI (mx_uR g (.inl 3) (Int32.toNatClampNeg (g.2.1 (.inl 0) 2)) (some (.inr (S, 0)))) (.inl 0) 2 (g.2.1 (.inl 0) 2 + 1)) y3)) (fun h5 => ((mx_uR h5 (.inl 0) 3 (some y3)).2.1 (.inl 0) 2 - 1, mx_uR h5 (.inl 0) 3 (some y3))))) else _) = _
      rw [if_pos (i_le p6 ha (by omega)), i_cl s2]
      refine x_val_s (adn (o := 0) (show g.1 = _ from g1) (by decide)) ?_
      show ((mx_uR (f58 (.inr (S + 1, 0)) (mx_nw (k_G g S) (.inr (S + 1, 0)))) (.inl 0) 3 (some (.inr (S + 1, 0)))).2.1 (.inl 0) 2 - 1, mx_uR (f58 (.inr (S + 1, 0)) (mx_nw (k_G g S) (.inr (S + 1, 0)))) (.inl 0) 3 (some (.inr (S + 1, 0)))) = _
      rw [C58 (S := S) (show g.1 + 1 = _ by omega)]
      rfl
    | j + 1, e =>
      have c : rD g (.inl 90) 0 = (N + k : Nat) := B.2.2.2.1
      show ∃ g', k_B h g' N (N + n) S ∧ (if g.2.1 (.inr (S, 0)) 6 ≤ a1 then _ else g169_16 (a1 + 1) (f37 1 S g).2) = (g'.2.1 (.inl 0) 2 + 1 - 1, k_N g' S)
      rw [if_neg (i_nle p6 ha (by omega)), C37 c (by omega)]
      exact C169g S11 j (k + 1) (a1 + 1) (by omega) (by rw [i_add ha k_1 (by omega) (by omega)]; omega) n15 nn hp hd hs h1 (B.b (by omega) (by omega))
end RM
