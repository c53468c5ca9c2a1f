/-! ===== what was done: both histories alike ===== -/
section RDD
variable {h h' g hc hr gc gr : mx_H} {S S' N s i j n m k c D U E : Nat} {a a1 a2 a3 a4 a5 : Int32} {V V' : Nat → Nat → Nat → Int}
/-- entry j is of a corner -/
def rh_c (hc hr : mx_H) (s j : Nat) : Prop := ∃ o c : Nat, c < 6 ∧ rD hc (.inl 87) j = c ∧ rD hr (.inl 124) j = ((6 * s + c : Nat) : Int) ∧ hc.2.1 (.inl 88) j = hr.2.1 (.inl 125) j ∧ hc.2.1 (.inl 89) j = hr.2.1 (.inl 126) j ∧
  ((o = 2 ∧ hc.2.1 (.inl 86) j = 0 ∧ hr.2.1 (.inl 123) j = 0) ∨ (o = 3 ∧ hc.2.1 (.inl 86) j = 1 ∧ hr.2.1 (.inl 123) j = 1) ∨ (o = 1 ∧ hc.2.1 (.inl 86) j = 3 ∧ hr.2.1 (.inl 123) j = 5) ∨
   (o = 4 ∧ hc.2.1 (.inl 86) j = 2 ∧ hr.2.1 (.inl 123) j = 2 ∧ (hc.2.1 (.inl 88) j = 0 ∨ hc.2.1 (.inl 88) j = 1) ∧ (hc.2.1 (.inl 89) j = 0 ∨ hc.2.1 (.inl 89) j = 1)))
/-- entry j is of a piece; V: how stiff all were ahead of each entry -/
def rh_p (hc hr : mx_H) (S : Nat) (V : Nat → Nat → Nat → Int) (s j : Nat) : Prop := ∃ (k u v : Nat) (x y cb ca : Int), hc.2.1 (.inl 86) j = 4 ∧ rD hc (.inl 87) j = k ∧ (k : Int) < rD hc (.inr (s, 0)) 6 ∧ (u < 6 ∧ v < 6 ∧ u ≠ v) ∧ rD hc (.inr (s, 5)) k = ((min u v : Nat) : Int) ∧ rD hc (.inr (s, 6)) k = ((max u v : Nat) : Int) ∧ rD hr (.inl 124) j = ((36 * s + 6 * u + v : Nat) : Int) ∧
  rD hc (.inl 88) j = 10 * x + cb ∧ rD hc (.inl 89) j = 10 * y + ca ∧ (0 ≤ x ∧ x ≤ 9 ∧ 0 ≤ y ∧ y ≤ 9 ∧ 0 ≤ cb ∧ cb ≤ 9 ∧ 0 ≤ ca ∧ ca ≤ 9 ∧ cb ≤ x ∧ ca ≤ y) ∧ V j s k = x ∧ V (j + 1) s k = y ∧ (∀ s' k', s' < S → ¬ (s' = s ∧ k' = k) → V (j + 1) s' k' = V j s' k') ∧
  ((hr.2.1 (.inl 123) j = 3 ∧ rD hr (.inl 125) j = cb ∧ rD hr (.inl 126) j = ca ∧ x = y) ∨ (hr.2.1 (.inl 123) j = 4 ∧ rD hr (.inl 125) j = x ∧ rD hr (.inl 126) j = y ∧ rD hr (.inl 127) j = cb ∧ ca = min cb y))
def rh_e (hc hr : mx_H) (S : Nat) (V : Nat → Nat → Nat → Int) (j : Nat) : Prop := ∃ s, s < S ∧ hc.2.2.2 (.inl 85) j = some (.inr (s, 0)) ∧ ((rh_c hc hr s j ∧ ∀ s' k', s' < S → V (j + 1) s' k' = V j s' k') ∨ rh_p hc hr S V s j)
def rh_H (hc hr : mx_H) (S : Nat) (V : Nat → Nat → Nat → Int) (D U : Nat) : Prop := rD hc (.inl 84) 0 = D ∧ rD hc (.inl 84) 1 = U ∧ rD hr (.inl 105) 24 = D ∧ rD hr (.inl 105) 25 = U ∧ D + U ≤ 40 ∧ (∀ s k, s < S → V D s k = rD hc (.inr (s, 7)) k) ∧ ∀ j, j < D + U → rh_e hc hr S V j
/-- what entries read of shapes is as it was -/
def rh_s (S : Nat) (h g : mx_H) : Prop := ∀ s, s < S → g.2.1 (.inr (s, 0)) 6 = h.2.1 (.inr (s, 0)) 6 ∧ ∀ k, g.2.1 (.inr (s, 5)) k = h.2.1 (.inr (s, 5)) k ∧ g.2.1 (.inr (s, 6)) k = h.2.1 (.inr (s, 6)) k
theorem rh_e.x (p85 : gc.2.2.2 (.inl 85) j = hc.2.2.2 (.inl 85) (j + m)) (p : ∀ q, 86 ≤ q → q ≤ 89 → gc.2.1 (.inl q) j = hc.2.1 (.inl q) (j + m)) (r : ∀ q, 123 ≤ q → q ≤ 127 → gr.2.1 (.inl q) j = hr.2.1 (.inl q) (j + m)) (sc : rh_s S hc gc) (SS : S ≤ S')
    (v0 : ∀ s k, s < S → V' j s k = V (j + m) s k ∧ V' (j + 1) s k = V (j + m + 1) s k) (v1 : ∀ s k, S ≤ s → s < S' → V' (j + 1) s k = V' j s k) (e : rh_e hc hr S V (j + m)) : rh_e gc gr S' V' j := by
  obtain ⟨s, hs, e85, e⟩ := e
  obtain ⟨s6, s56⟩ := sc s hs
  refine ⟨s, by omega, p85.trans e85, ?_⟩
  rcases e with ⟨⟨o, c, q1, q2, q3, q4, q5, q6⟩, q7⟩ | ⟨k, u, v, x, y, cb, ca, q1, q2, q3, q4, q5, q6, q7, q8, q9, q10, q11, q12, q13, q14⟩
  · refine Or.inl ⟨⟨o, c, q1, ?_, ?_, ?_, ?_, ?_⟩, fun s' k' l => ?_⟩
    · unfold rD
      rw [p 87 (by decide +kernel) (by decide +kernel)]
      exact q2
    · unfold rD
      rw [r 124 (by decide +kernel) (by decide +kernel)]
      exact q3
    · rw [p 88 (by decide +kernel) (by decide +kernel), r 125 (by decide +kernel) (by decide +kernel)]
      exact q4
    · rw [p 89 (by decide +kernel) (by decide +kernel), r 126 (by decide +kernel) (by decide +kernel)]
      exact q5
    · rw [p 86 (by decide +kernel) (by decide +kernel), r 123 (by decide +kernel) (by decide +kernel), p 88 (by decide +kernel) (by decide +kernel), p 89 (by decide +kernel) (by decide +kernel)]
      exact q6
    · by_cases l' : s' < S
      · rw [(v0 s' k' l').1, (v0 s' k' l').2]
        exact q7 s' k' l'
      · exact v1 s' k' (by omega) l
  · refine Or.inr ⟨k, u, v, x, y, cb, ca, ?_, ?_, ?_, q4, ?_, ?_, ?_, ?_, ?_, q10, ?_, ?_, fun s' k' l t => ?_, ?_⟩
    · rw [p 86 (by decide +kernel) (by decide +kernel)]
      exact q1
    · unfold rD
      rw [p 87 (by decide +kernel) (by decide +kernel)]
      exact q2
    · unfold rD
      rw [s6]
      exact q3
    · unfold rD
      rw [(s56 k).1]
      exact q5
    · unfold rD
      rw [(s56 k).2]
      exact q6
    · unfold rD
      rw [r 124 (by decide +kernel) (by decide +kernel)]
      exact q7
    · unfold rD
      rw [p 88 (by decide +kernel) (by decide +kernel)]
      exact q8
    · unfold rD
      rw [p 89 (by decide +kernel) (by decide +kernel)]
      exact q9
    · rw [(v0 s k hs).1]
      exact q11
    · rw [(v0 s k hs).2]
      exact q12
    · by_cases l' : s' < S
      · rw [(v0 s' k' l').1, (v0 s' k' l').2]
        exact q13 s' k' l' t
      · exact v1 s' k' (by omega) l
    · unfold rD
      rw [r 123 (by decide +kernel) (by decide +kernel), r 125 (by decide +kernel) (by decide +kernel), r 126 (by decide +kernel) (by decide +kernel), r 127 (by decide +kernel) (by decide +kernel)]
      exact q14
/-- the histories are as they were; shapes may have come -/
theorem rh_H.new (H : rh_H hc hr S V D U) (SS : S ≤ S') (ec : ∀ s, s < S → rs_ec s hc gc) (p85 : ∀ i, gc.2.2.2 (.inl 85) i = hc.2.2.2 (.inl 85) i) (p : ∀ q i, 84 ≤ q → q ≤ 89 → (q = 84 → i = 0 ∨ i = 1) → q ≠ 85 → gc.2.1 (.inl q) i = hc.2.1 (.inl q) i) (r : ∀ q i, 123 ≤ q → q ≤ 127 → gr.2.1 (.inl q) i = hr.2.1 (.inl q) i)
    (r24 : gr.2.1 (.inl 105) 24 = hr.2.1 (.inl 105) 24) (r25 : gr.2.1 (.inl 105) 25 = hr.2.1 (.inl 105) 25) : ∃ V', rh_H gc gr S' V' D U := by
  obtain ⟨h1, h2, h3, h4, h5, h6, h7⟩ := H
  refine ⟨fun j s k => if s < S then V j s k else rD gc (.inr (s, 7)) k, ?_, ?_, ?_, ?_, h5, fun s k hs => ?_, fun j hj => ?_⟩
  · unfold rD
    rw [p 84 0 (by decide +kernel) (by decide +kernel) (by omega) (by decide +kernel)]
    exact h1
  · unfold rD
    rw [p 84 1 (by decide +kernel) (by decide +kernel) (by omega) (by decide +kernel)]
    exact h2
  · unfold rD
    rw [r24]
    exact h3
  · unfold rD
    rw [r25]
    exact h4
  · show (if s < S then V D s k else rD gc (.inr (s, 7)) k) = _
    by_cases l : s < S
    · rw [if_pos l, h6 s k l]
      unfold rD
      rw [ec s l 7 k (by omega)]
    · rw [if_neg l]
  · exact (rh_e.x (m := 0) (V := V) (p85 j) (fun q l1 l2 => p q j (by omega) l2 (by omega) (by omega)) (fun q l1 l2 => r q j l1 l2) (fun s l => ⟨ec s l 0 6 (by omega), fun k => ⟨ec s l 5 k (by omega), ec s l 6 k (by omega)⟩⟩) SS (fun s k l => ⟨if_pos l, if_pos l⟩) (fun s k l1 l2 => by
      show (if s < S then V (j + 1) s k else rD gc (.inr (s, 7)) k) = if s < S then V j s k else rD gc (.inr (s, 7)) k
      rw [if_neg (by omega), if_neg (by omega)]) (h7 j hj))
/-! an act more, on the class's side -/
def rh_fc (h g : mx_H) : Prop := g.1 = h.1 ∧ (∀ k i, k ≠ 85 → g.2.2.2 (.inl k) i = h.2.2.2 (.inl k) i) ∧ (∀ q i, g.2.1 (.inr q) i = h.2.1 (.inr q) i) ∧ ∀ k i, k < 84 ∨ 89 < k → g.2.1 (.inl k) i = h.2.1 (.inl k) i
def rh_fr (h g : mx_H) : Prop := g.1 = h.1 ∧ g.2.2 = h.2.2 ∧ (∀ q i, g.2.1 (.inr q) i = h.2.1 (.inr q) i) ∧ ∀ k i, ¬ (k = 105 ∧ (i = 24 ∨ i = 25)) → ¬ (123 ≤ k ∧ k ≤ 127) → g.2.1 (.inl k) i = h.2.1 (.inl k) i
theorem rh_fc.u (a : rh_fc h g) : rs_u S h g := ⟨a.1, a.2.1 0 3 (by decide +kernel), fun i => a.2.1 3 i (by decide +kernel), fun i => a.2.1 92 i (by decide +kernel), a.2.2.2 0 2 (by omega), a.2.2.2 90 0 (by omega), fun i => a.2.2.2 91 i (by omega), fun s _ o i _ => a.2.2.1 (s, o) i⟩
theorem rh_fr.v (a : rh_fr h g) : rs_v S h g := ⟨a.2.2.2 105 1 (by omega) (by omega), a.2.2.2 105 12 (by omega) (by omega), fun i => a.2.2.2 116 i (by omega) (by omega), fun i => a.2.2.2 117 i (by omega) (by omega), fun s _ k i w => by
  unfold rs_w at w
  exact a.2.2.2 k i (by omega) (by omega)⟩
def ka_C (h g : mx_H) (s : Nat) (a2 a3 a4 a5 : Int32) (E m : Nat) : Prop := rh_fc h g ∧ rD g (.inl 84) 0 = ((E + 1 : Nat) : Int) ∧ rD g (.inl 84) 1 = 0 ∧ (∀ j, j < E → g.2.2.2 (.inl 85) j = h.2.2.2 (.inl 85) (j + m) ∧ ∀ q, 86 ≤ q → q ≤ 89 → g.2.1 (.inl q) j = h.2.1 (.inl q) (j + m)) ∧
  g.2.2.2 (.inl 85) E = some (.inr (s, 0)) ∧ g.2.1 (.inl 86) E = a2 ∧ g.2.1 (.inl 87) E = a3 ∧ g.2.1 (.inl 88) E = a4 ∧ g.2.1 (.inl 89) E = a5
def k_17 (h : mx_H) (E s : Nat) (a2 a3 a4 a5 : Int32) : mx_H := mx_uI (mx_uI (mx_uI (mx_uI (mx_uI (mx_uI (mx_uR h (.inl 85) E (some (.inr (s, 0)))) (.inl 86) E a2) (.inl 87) E a3) (.inl 88) E a4) (.inl 89) E a5) (.inl 84) 0 (h.2.1 (.inl 84) 0 + 1)) (.inl 84) 1 0
theorem C17a : g17_13 s a2 a3 a4 a5 h = k_17 h (Int32.toNatClampNeg (h.2.1 (.inl 84) 0)) s a2 a3 a4 a5 := by
  rw [g17_13_eq]
  rfl
theorem k_17o {q : Nat} (w : q < 84 ∨ 89 < q) : (k_17 h E s a2 a3 a4 a5).2.1 (.inl q) i = h.2.1 (.inl q) i := by
  unfold k_17
  rw [rN (by omega), rN (by omega), rN (by omega), rN (by omega), rN (by omega), rN (by omega)]
  rfl
theorem k_17q {q : Nat} (ne : i ≠ E) (l1 : 86 ≤ q) (l2 : q ≤ 89) : (k_17 h E s a2 a3 a4 a5).2.1 (.inl q) i = h.2.1 (.inl q) i := by
  unfold k_17
  rw [rN (by omega), rN (by omega), rI_i ne, rI_i ne, rI_i ne, rI_i ne]
  rfl
theorem k_17r {q : Nat} (ne : ¬ (q = 85 ∧ i = E)) : (k_17 h E s a2 a3 a4 a5).2.2.2 (.inl q) i = h.2.2.2 (.inl q) i := by
  show (mx_uR h (.inl 85) E (some (.inr (s, 0)))).2.2.2 (.inl q) i = _
  rw [rR, if_neg (fun z => ne ⟨Sum.inl.inj z.1, z.2⟩)]
theorem ka_C.mk0 (hD : rD h (.inl 84) 0 = E) (E40 : E < 40) : ka_C h (g17_13 s a2 a3 a4 a5 h) s a2 a3 a4 a5 E 0 := by
  rw [C17a, i_cl hD]
  refine ⟨⟨rfl, fun k i q => k_17r (fun t => q t.1), fun _ _ => rfl, fun k i q => k_17o q⟩, ?_, rfl, fun j hj => ⟨k_17r (by omega), fun q l1 l2 => k_17q (by omega) l1 l2⟩, ?_, ?_, ?_, ?_, ?_⟩
  · show (h.2.1 (.inl 84) 0 + 1).toInt = _
    exact (i_add hD k_1 (by omega) (by omega)).trans (by omega)
  · show (mx_uR h (.inl 85) E (some (.inr (s, 0)))).2.2.2 (.inl 85) E = _
    rw [rR, if_pos ⟨rfl, rfl⟩]
  · show (mx_uI (mx_uR h (.inl 85) E (some (.inr (s, 0)))) (.inl 86) E a2).2.1 (.inl 86) E = _
    exact rI_s
  · show (mx_uI (mx_uI (mx_uR h (.inl 85) E (some (.inr (s, 0)))) (.inl 86) E a2) (.inl 87) E a3).2.1 (.inl 87) E = _
    exact rI_s
  · show (mx_uI (mx_uI (mx_uI (mx_uR h (.inl 85) E (some (.inr (s, 0)))) (.inl 86) E a2) (.inl 87) E a3) (.inl 88) E a4).2.1 (.inl 88) E = _
    exact rI_s
  · show (mx_uI (mx_uI (mx_uI (mx_uI (mx_uR h (.inl 85) E (some (.inr (s, 0)))) (.inl 86) E a2) (.inl 87) E a3) (.inl 88) E a4) (.inl 89) E a5).2.1 (.inl 89) E = _
    exact rI_s
/-- the oldest goes -/
def k_18 (g : mx_H) (k t : Nat) : mx_H := mx_uI (mx_uI (mx_uI (mx_uI (mx_uR g (.inl 85) (k - 1) (some (.inr (t, 0)))) (.inl 86) (k - 1) (g.2.1 (.inl 86) k)) (.inl 87) (k - 1) (g.2.1 (.inl 87) k)) (.inl 88) (k - 1) (g.2.1 (.inl 88) k)) (.inl 89) (k - 1) (g.2.1 (.inl 89) k)
theorem k_18o {q t : Nat} (w : q < 86 ∨ 89 < q) : (k_18 g k t).2.1 (.inl q) i = g.2.1 (.inl q) i := by
  unfold k_18
  rw [rN (by omega), rN (by omega), rN (by omega), rN (by omega)]
  rfl
theorem k_18q {q t : Nat} (l1 : 86 ≤ q) (l2 : q ≤ 89) : (k_18 g k t).2.1 (.inl q) i = if i = k - 1 then g.2.1 (.inl q) k else g.2.1 (.inl q) i := by
  unfold k_18
  by_cases e : i = k - 1
  · rw [if_pos e]
    rcases (show q = 86 ∨ q = 87 ∨ q = 88 ∨ q = 89 by omega) with w | w | w | w
    · subst w
      rw [rN (by decide +kernel), rN (by decide +kernel), rN (by decide +kernel), rI_c rfl e]
    · subst w
      rw [rN (by decide +kernel), rN (by decide +kernel), rI_c rfl e]
    · subst w
      rw [rN (by decide +kernel), rI_c rfl e]
    · subst w
      rw [rI_c rfl e]
  · rw [if_neg e, rI_i e, rI_i e, rI_i e, rI_i e]
    rfl
theorem k_18r {q t : Nat} : (k_18 g k t).2.2.2 (.inl q) i = if q = 85 ∧ i = k - 1 then some (.inr (t, 0)) else g.2.2.2 (.inl q) i := by
  show (mx_uR g (.inl 85) (k - 1) (some (.inr (t, 0)))).2.2.2 (.inl q) i = _
  rw [rR]
  by_cases e : q = 85 ∧ i = k - 1
  · rw [if_pos e, if_pos ⟨by rw [e.1], e.2⟩]
  · rw [if_neg e, if_neg (fun z => e ⟨Sum.inl.inj z.1, z.2⟩)]
theorem C18s {t : Nat} (ha : a1.toInt = (k : Int)) (k1 : 1 ≤ k) (k40 : k < 40) (e : g.2.2.2 (.inl 85) k = some (.inr (t, 0))) : g18_2 a1 g = g18_2 (a1 + 1) (k_18 g k t) := by
  have hb : (a1 - 1).toInt = ((k - 1 : Nat) : Int) := (i_sub ha k_1 (by omega) (by omega)).trans (by omega)
  rw [g18_2_eq, if_neg (i_nle ivt_40 ha (by omega)), i_cl ha, i_cl hb, x_opt_s e]
  rfl
def k_18I (h g : mx_H) (k : Nat) : Prop := rh_fc h g ∧ (∀ i, g.2.1 (.inl 84) i = h.2.1 (.inl 84) i) ∧ (∀ j, j + 1 < k → g.2.2.2 (.inl 85) j = h.2.2.2 (.inl 85) (j + 1) ∧ ∀ q, 86 ≤ q → q ≤ 89 → g.2.1 (.inl q) j = h.2.1 (.inl q) (j + 1)) ∧ ∀ j, k ≤ j + 1 → g.2.2.2 (.inl 85) j = h.2.2.2 (.inl 85) j ∧ ∀ q, 86 ≤ q → q ≤ 89 → g.2.1 (.inl q) j = h.2.1 (.inl q) j
theorem C18g (R : ∀ j, j < 40 → ∃ t, h.2.2.2 (.inl 85) j = some (.inr (t, 0))) : ∀ (n k : Nat) (a1 : Int32) {g : mx_H}, k + n = 40 → 1 ≤ k → a1.toInt = (k : Int) → k_18I h g k → ∃ g', g18_2 a1 g = mx_uI g' (.inl 84) 0 39 ∧ k_18I h g' 40
  | 0, k, a1, g, e, k1, ha, I => ⟨g, by rw [g18_2_eq, if_pos (i_le ivt_40 ha (by omega))], (show k = 40 by omega) ▸ I⟩
  | n + 1, k, a1, g, e, k1, ha, I => by
    obtain ⟨i1, i2, i3, i4⟩ := I
    obtain ⟨t, ht⟩ := R k (by omega)
    have hk := i4 k (by omega)
    rw [C18s ha k1 (by omega) (hk.1.trans ht)]
    refine C18g R n (k + 1) (a1 + 1) (by omega) (by omega) ((i_add ha k_1 (by omega) (by omega)).trans (by omega)) ⟨⟨i1.1, fun q i w => ?_, fun q i => i1.2.2.1 q i, fun q i w => ?_⟩, fun i => ?_, fun j hj => ⟨?_, fun q l1 l2 => ?_⟩, fun j hj => ⟨?_, fun q l1 l2 => ?_⟩⟩
    · rw [k_18r, if_neg (fun z => w z.1)]
      exact i1.2.1 q i w
    · rw [k_18o (by omega)]
      exact i1.2.2.2 q i w
    · rw [k_18o (by omega)]
      exact i2 i
    · rw [k_18r]
      by_cases w : j = k - 1
      · rw [if_pos ⟨rfl, w⟩, show j + 1 = k by omega, ht]
      · rw [if_neg (fun z => w z.2)]
        exact (i3 j (by omega)).1
    · rw [k_18q l1 l2]
      by_cases w : j = k - 1
      · rw [if_pos w, show j + 1 = k by omega]
        exact hk.2 q l1 l2
      · rw [if_neg w]
        exact (i3 j (by omega)).2 q l1 l2
    · rw [k_18r, if_neg (by omega)]
      exact (i4 j (by omega)).1
    · rw [k_18q l1 l2, if_neg (by omega)]
      exact (i4 j (by omega)).2 q l1 l2
theorem C17 (hD : rD h (.inl 84) 0 = D) (D40 : D ≤ 40) (R : ∀ j, j < D → ∃ t, h.2.2.2 (.inl 85) j = some (.inr (t, 0))) : (D < 40 ∧ ka_C h (f17 s a2 a3 a4 a5 h) s a2 a3 a4 a5 D 0) ∨ (D = 40 ∧ ka_C h (f17 s a2 a3 a4 a5 h) s a2 a3 a4 a5 39 1) := by
  rw [f17_eq]
  by_cases c : D < 40
  · rw [if_pos (i_lt hD ivt_40 (by omega))]
    exact Or.inl ⟨c, ka_C.mk0 hD c⟩
  · rw [if_neg (i_nlt hD ivt_40 (by omega))]
    refine Or.inr ⟨by omega, ?_⟩
    obtain ⟨g, e, ⟨i1, i2, i3, i4⟩⟩ := C18g (h := h) (fun j hj => R j (by omega)) 39 1 1 (g := h) (by omega) (by omega) rfl ⟨⟨rfl, fun _ _ _ => rfl, fun _ _ => rfl, fun _ _ _ => rfl⟩, fun _ => rfl, fun j hj => by omega, fun j _ => ⟨rfl, fun _ _ _ => rfl⟩⟩
    show ka_C h (g17_13 s a2 a3 a4 a5 (f18 h)) s a2 a3 a4 a5 39 1
    rw [f18_eq, e]
    obtain ⟨k1, k2, k3, k4, k5, k6, k7, k8, k9⟩ := ka_C.mk0 (h := mx_uI g (.inl 84) 0 39) (s := s) (a2 := a2) (a3 := a3) (a4 := a4) (a5 := a5) (E := 39) rfl (by omega)
    refine ⟨⟨k1.1.trans i1.1, fun q i w => (k1.2.1 q i w).trans (i1.2.1 q i w), fun q i => (k1.2.2.1 q i).trans (i1.2.2.1 q i), fun q i w => (k1.2.2.2 q i w).trans ?_⟩, k2, k3, fun j hj => ⟨(k4 j hj).1.trans (i3 j (by omega)).1, fun q l1 l2 => ((k4 j hj).2 q l1 l2).trans ?_⟩, k5, k6, k7, k8, k9⟩
    · rw [rN (by omega)]
      exact i1.2.2.2 q i w
    · rw [rN (by omega)]
      exact (i3 j (by omega)).2 q l1 l2
/-! an act more, on the reference's side -/
def ka_R (h g : mx_H) (a1 a2 a3 a4 a5 : Int32) (E m : Nat) : Prop := rh_fr h g ∧ rD g (.inl 105) 24 = ((E + 1 : Nat) : Int) ∧ rD g (.inl 105) 25 = 0 ∧ (∀ j, j < E → ∀ q, 123 ≤ q → q ≤ 127 → g.2.1 (.inl q) j = h.2.1 (.inl q) (j + m)) ∧ g.2.1 (.inl 123) E = a1 ∧ g.2.1 (.inl 124) E = a2 ∧ g.2.1 (.inl 125) E = a3 ∧ g.2.1 (.inl 126) E = a4 ∧ g.2.1 (.inl 127) E = a5
def r_19 (h : mx_H) (E : Nat) (a1 a2 a3 a4 a5 : Int32) : mx_H := mx_uI (mx_uI (mx_uI (mx_uI (mx_uI (mx_uI h (.inl 123) E a1) (.inl 124) E a2) (.inl 125) E a3) (.inl 126) E a4) (.inl 127) E a5) (.inl 105) 24 (h.2.1 (.inl 105) 24 + 1)
theorem R198a : g198_120 a1 a2 a3 a4 a5 h = r_19 h (Int32.toNatClampNeg (h.2.1 (.inl 105) 24)) a1 a2 a3 a4 a5 := by
  rw [g198_120_eq]
  rfl
theorem r_19o {q : Nat} (w1 : ¬ (q = 105 ∧ i = 24)) (w2 : ¬ (123 ≤ q ∧ q ≤ 127)) : (r_19 h E a1 a2 a3 a4 a5).2.1 (.inl q) i = h.2.1 (.inl q) i := by
  unfold r_19
  rw [show ∀ (H : mx_H) (v : Int32), (mx_uI H (.inl 105) 24 v).2.1 (.inl q) i = H.2.1 (.inl q) i from fun H v => if_neg (fun z => w1 ⟨Sum.inl.inj z.1, z.2⟩), rN (by omega), rN (by omega), rN (by omega), rN (by omega), rN (by omega)]
theorem r_19q {q : Nat} (ne : i ≠ E) (l1 : 123 ≤ q) (l2 : q ≤ 127) : (r_19 h E a1 a2 a3 a4 a5).2.1 (.inl q) i = h.2.1 (.inl q) i := by
  unfold r_19
  rw [rN (by omega), rI_i ne, rI_i ne, rI_i ne, rI_i ne, rI_i ne]
theorem ka_R.mk0 (hD : rD h (.inl 105) 24 = E) (hU : rD h (.inl 105) 25 = 0) (E40 : E < 40) : ka_R h (g198_120 a1 a2 a3 a4 a5 h) a1 a2 a3 a4 a5 E 0 := by
  rw [R198a, i_cl hD]
  refine ⟨⟨rfl, rfl, fun _ _ => rfl, fun k i q w => r_19o (fun t => q ⟨t.1, Or.inl t.2⟩) w⟩, ?_, ?_, fun j hj q l1 l2 => r_19q (by omega) l1 l2, ?_, ?_, ?_, ?_, ?_⟩
  · show (h.2.1 (.inl 105) 24 + 1).toInt = _
    exact (i_add hD k_1 (by omega) (by omega)).trans (by omega)
  · unfold rD
    rw [r_19o (by omega) (by omega)]
    exact hU
  · show (mx_uI h (.inl 123) E a1).2.1 (.inl 123) E = _
    exact rI_s
  · show (mx_uI (mx_uI h (.inl 123) E a1) (.inl 124) E a2).2.1 (.inl 124) E = _
    exact rI_s
  · show (mx_uI (mx_uI (mx_uI h (.inl 123) E a1) (.inl 124) E a2) (.inl 125) E a3).2.1 (.inl 125) E = _
    exact rI_s
  · show (mx_uI (mx_uI (mx_uI (mx_uI h (.inl 123) E a1) (.inl 124) E a2) (.inl 125) E a3) (.inl 126) E a4).2.1 (.inl 126) E = _
    exact rI_s
  · show (mx_uI (mx_uI (mx_uI (mx_uI (mx_uI h (.inl 123) E a1) (.inl 124) E a2) (.inl 125) E a3) (.inl 126) E a4) (.inl 127) E a5).2.1 (.inl 127) E = _
    exact rI_s
def r_17 (g : mx_H) (k : Nat) : mx_H := mx_uI (mx_uI (mx_uI (mx_uI (mx_uI g (.inl 123) (k - 1) (g.2.1 (.inl 123) k)) (.inl 124) (k - 1) (g.2.1 (.inl 124) k)) (.inl 125) (k - 1) (g.2.1 (.inl 125) k)) (.inl 126) (k - 1) (g.2.1 (.inl 126) k)) (.inl 127) (k - 1) (g.2.1 (.inl 127) k)
theorem r_17o {q : Nat} (w : q < 123 ∨ 127 < q) : (r_17 g k).2.1 (.inl q) i = g.2.1 (.inl q) i := by
  unfold r_17
  rw [rN (by omega), rN (by omega), rN (by omega), rN (by omega), rN (by omega)]
theorem r_17q {q : Nat} (l1 : 123 ≤ q) (l2 : q ≤ 127) : (r_17 g k).2.1 (.inl q) i = if i = k - 1 then g.2.1 (.inl q) k else g.2.1 (.inl q) i := by
  unfold r_17
  by_cases e : i = k - 1
  · rw [if_pos e]
    rcases (show q = 123 ∨ q = 124 ∨ q = 125 ∨ q = 126 ∨ q = 127 by omega) with w | w | w | w | w
    · subst w
      rw [rN (by decide +kernel), rN (by decide +kernel), rN (by decide +kernel), rN (by decide +kernel), rI_c rfl e]
    · subst w
      rw [rN (by decide +kernel), rN (by decide +kernel), rN (by decide +kernel), rI_c rfl e]
    · subst w
      rw [rN (by decide +kernel), rN (by decide +kernel), rI_c rfl e]
    · subst w
      rw [rN (by decide +kernel), rI_c rfl e]
    · subst w
      rw [rI_c rfl e]
  · rw [if_neg e, rI_i e, rI_i e, rI_i e, rI_i e, rI_i e]
theorem R17s {a6 : Int32} (ha : a6.toInt = (k : Int)) (k1 : 1 ≤ k) (k40 : k < 40) : g198_17 a1 a2 a3 a4 a5 a6 g = g198_17 a1 a2 a3 a4 a5 (a6 + 1) (r_17 g k) := by
  have hb : (a6 - 1).toInt = ((k - 1 : Nat) : Int) := (i_sub ha k_1 (by omega) (by omega)).trans (by omega)
  rw [g198_17_eq, if_neg (i_nle ivt_40 ha (by omega)), i_cl ha, i_cl hb]
  rfl
def r_17I (h g : mx_H) (k : Nat) : Prop := rh_fr h g ∧ (∀ i, g.2.1 (.inl 105) i = h.2.1 (.inl 105) i) ∧ (∀ j, j + 1 < k → ∀ q, 123 ≤ q → q ≤ 127 → g.2.1 (.inl q) j = h.2.1 (.inl q) (j + 1)) ∧ ∀ j, k ≤ j + 1 → ∀ q, 123 ≤ q → q ≤ 127 → g.2.1 (.inl q) j = h.2.1 (.inl q) j
theorem R17g : ∀ (n k : Nat) (a6 : Int32) {g : mx_H}, k + n = 40 → 1 ≤ k → a6.toInt = (k : Int) → r_17I h g k → ∃ g', g198_17 a1 a2 a3 a4 a5 a6 g = g198_120 a1 a2 a3 a4 a5 (mx_uI g' (.inl 105) 24 (g'.2.1 (.inl 105) 24 - 1)) ∧ r_17I h g' 40
  | 0, k, a6, g, e, k1, ha, I => ⟨g, by rw [g198_17_eq, if_pos (i_le ivt_40 ha (by omega))], (show k = 40 by omega) ▸ I⟩
  | n + 1, k, a6, g, e, k1, ha, I => by
    obtain ⟨i1, i2, i3, i4⟩ := I
    have hk := i4 k (by omega)
    rw [R17s ha k1 (by omega)]
    refine R17g n (k + 1) (a6 + 1) (by omega) (by omega) ((i_add ha k_1 (by omega) (by omega)).trans (by omega)) ⟨⟨i1.1, i1.2.1, fun q i => i1.2.2.1 q i, fun q i w1 w2 => ?_⟩, fun i => ?_, fun j hj q l1 l2 => ?_, fun j hj q l1 l2 => ?_⟩
    · rw [r_17o (by omega)]
      exact i1.2.2.2 q i w1 w2
    · rw [r_17o (by omega)]
      exact i2 i
    · rw [r_17q l1 l2]
      by_cases w : j = k - 1
      · rw [if_pos w, show j + 1 = k by omega]
        exact hk q l1 l2
      · rw [if_neg w]
        exact i3 j (by omega) q l1 l2
    · rw [r_17q l1 l2, if_neg (by omega)]
      exact i4 j (by omega) q l1 l2
theorem R198 (hD : rD h (.inl 105) 24 = D) (D40 : D ≤ 40) : (D < 40 ∧ ka_R h (f198 a1 a2 a3 a4 a5 h) a1 a2 a3 a4 a5 D 0) ∨ (D = 40 ∧ ka_R h (f198 a1 a2 a3 a4 a5 h) a1 a2 a3 a4 a5 39 1) := by
  rw [f198_eq]
  have hD' : rD (mx_uI h (.inl 105) 25 0) (.inl 105) 24 = D := hD
  have fo : ∀ q i, ¬ (q = 105 ∧ i = 25) → (mx_uI h (.inl 105) 25 0).2.1 (.inl q) i = h.2.1 (.inl q) i := fun q i w => if_neg (fun z => w ⟨Sum.inl.inj z.1, z.2⟩)
  by_cases c : D < 40
  · rw [if_pos (show _ ≠ _ from i_ne hD' ivt_40 (by omega))]
    refine Or.inl ⟨c, ?_⟩
    obtain ⟨k1, k2, k3, k4, k5⟩ := ka_R.mk0 (h := mx_uI h (.inl 105) 25 0) (a1 := a1) (a2 := a2) (a3 := a3) (a4 := a4) (a5 := a5) (E := D) hD' rfl c
    exact ⟨⟨k1.1, k1.2.1, k1.2.2.1, fun q i w1 w2 => (k1.2.2.2 q i w1 w2).trans (fo q i (fun t => w1 ⟨t.1, Or.inr t.2⟩))⟩, k2, k3, fun j hj q l1 l2 => (k4 j hj q l1 l2).trans (fo q _ (by omega)), k5⟩
  · rw [if_neg (fun t => t (i_eq hD' ivt_40 (by omega)))]
    refine Or.inr ⟨by omega, ?_⟩
    obtain ⟨g, e, ⟨i1, i2, i3, i4⟩⟩ := R17g (a1 := a1) (a2 := a2) (a3 := a3) (a4 := a4) (a5 := a5) (h := mx_uI h (.inl 105) 25 0) 39 1 1 (g := mx_uI h (.inl 105) 25 0) (by omega) (by omega) rfl ⟨⟨rfl, rfl, fun _ _ => rfl, fun _ _ _ _ => rfl⟩, fun _ => rfl, fun j hj => by omega, fun j _ _ _ _ => rfl⟩
    rw [e]
    have g24 : rD g (.inl 105) 24 = 40 := by
      unfold rD
      rw [i2 24]
      exact (show (h.2.1 (.inl 105) 24).toInt = _ from hD).trans (by omega)
    have hE : rD (mx_uI g (.inl 105) 24 (g.2.1 (.inl 105) 24 - 1)) (.inl 105) 24 = ((39 : Nat) : Int) := by
      unfold rD
      rw [rI_s]
      exact i_sub g24 k_1 (by omega) (by omega)
    have hU : rD (mx_uI g (.inl 105) 24 (g.2.1 (.inl 105) 24 - 1)) (.inl 105) 25 = 0 := by
      unfold rD
      rw [rI_i (by decide +kernel), i2 25]
      rfl
    obtain ⟨k1, k2, k3, k4, k5⟩ := ka_R.mk0 (a1 := a1) (a2 := a2) (a3 := a3) (a4 := a4) (a5 := a5) hE hU (by omega)
    refine ⟨⟨k1.1.trans i1.1, k1.2.1.trans i1.2.1, fun q i => (k1.2.2.1 q i).trans (i1.2.2.1 q i), fun q i w1 w2 => (k1.2.2.2 q i w1 w2).trans ?_⟩, k2, k3, fun j hj q l1 l2 => (k4 j hj q l1 l2).trans ?_, k5⟩
    · rw [show (mx_uI g (.inl 105) 24 (g.2.1 (.inl 105) 24 - 1)).2.1 (.inl q) i = g.2.1 (.inl q) i from if_neg (fun z => w1 ⟨Sum.inl.inj z.1, Or.inl z.2⟩), i1.2.2.2 q i w1 w2]
      exact fo q i (fun t => w1 ⟨t.1, Or.inr t.2⟩)
    · rw [rN (by omega), Nat.add_zero, i3 j (by omega) q l1 l2]
      exact fo q _ (by omega)
end RDD
/-! ===== one thing is set, on both sides ===== -/
section REE
variable {h h' g hc hr gc gr : mx_H} {S N s i j n m k c C F u v o D U E : Nat} {a a1 a2 a3 a4 a5 x y d e : Int32} {V : Nat → Nat → Nat → Int}
theorem rs_A.corner (A : rs_A hc hr S N) (hs : s < S) (o1 : 1 ≤ o) (o4 : o ≤ 4) (c6 : c < 6) : rs_A (mx_uI hc (.inr (s, o)) c x) (mx_uI hr (.inl (106 + o)) (6 * s + c) x) S N := by
  obtain ⟨A1, A2, A3, A4, A5, A6, A7, A8, A9, A10⟩ := A
  have rl : ∀ q i, ¬ (q = 106 + o ∧ i = 6 * s + c) → (mx_uI hr (.inl (106 + o)) (6 * s + c) x).2.1 (.inl q) i = hr.2.1 (.inl q) i := fun q i w => if_neg (fun z => w ⟨Sum.inl.inj z.1, z.2⟩)
  have cl : ∀ t p i, ¬ (t = s ∧ p = o ∧ i = c) → (mx_uI hc (.inr (s, o)) c x).2.1 (.inr (t, p)) i = hc.2.1 (.inr (t, p)) i := fun t p i w => if_neg (fun z => by
    have z1 := z.1
    have z2 := z.2
    cases z1
    exact w ⟨rfl, rfl, z2⟩)
  refine ⟨A1, A2, A3, ?_, A5, ?_, A7, A8, fun t ht => ⟨(A9 t ht).1, ?_⟩, fun b hb => ?_⟩
  · unfold rD
    rw [rl 105 1 (by omega)]
    exact A4
  · unfold rD
    rw [rl 105 12 (by omega)]
    exact A6
  · obtain ⟨C, n, F, Dt⟩ := (A9 t ht).2
    refine ⟨C, n, F, ?_⟩
    by_cases ts : t = s
    · subst ts
      obtain ⟨d1, d2, d3, d4, d5, d6, d7, d8, d9, d10, d11, d12, d13⟩ := Dt
      have kx : ∀ k u v, rs_k hc hr t C F k u v → rs_k (mx_uI hc (.inr (t, o)) c x) (mx_uI hr (.inl (106 + o)) (6 * t + c) x) t C F k u v := fun k u v Q => by
        obtain ⟨q1, q2, q3, q4, q5, q6, q7, q8, q9, q10, q11, q12⟩ := Q
        unfold rs_k rD
        rw [cl t 5 k (by omega), cl t 6 k (by omega), cl t 7 k (by omega), cl t 8 k (by omega), rl 113 (36 * t + 6 * u + v) (by omega), rl 113 (36 * t + 6 * v + u) (by omega), rl 111 (36 * t + 6 * u + v) (by omega), rl 111 (36 * t + 6 * v + u) (by omega), rl 112 (36 * t + 6 * u + v) (by omega), rl 112 (36 * t + 6 * v + u) (by omega), rl 117 (F + k) (by omega)]
        exact ⟨q1, q2, q3, q4, q5, q6, q7, q8, q9, q10, q11, q12⟩
      refine ⟨d1, d2, d3, ?_, ?_, ?_, ?_, fun i hi => ?_, ?_, fun k hk => ?_, fun u v hu hv => ?_, ?_, d13⟩
      · unfold rD
        rw [cl t 0 0 (by omega)]
        exact d4
      · unfold rD
        rw [rl 106 t (by omega)]
        exact d5
      · unfold rD
        rw [cl t 0 6 (by omega)]
        exact d6
      · unfold rD
        rw [cl t 0 5 (by omega)]
        exact d7
      · have cx : ∀ p, 1 ≤ p → p ≤ 4 → hc.2.1 (.inr (t, p)) i = hr.2.1 (.inl (106 + p)) (6 * t + i) → (mx_uI hc (.inr (t, o)) c x).2.1 (.inr (t, p)) i = (mx_uI hr (.inl (106 + o)) (6 * t + c) x).2.1 (.inl (106 + p)) (6 * t + i) := fun p p1 p4 q => by
          by_cases w : p = o ∧ i = c
          · rw [w.1, w.2, rI_s, rI_s]
          · rw [cl t p i (by omega), rl (106 + p) (6 * t + i) (by omega)]
            exact q
        obtain ⟨b1, b2, b3, b4⟩ := d8 i hi
        exact ⟨cx 1 (by omega) (by omega) b1, cx 2 (by omega) (by omega) b2, cx 3 (by omega) (by omega) b3, cx 4 (by omega) (by omega) b4⟩
      · rw [cl t 0 11 (by omega), cl t 0 12 (by omega), rl 114 t (by omega), rl 115 t (by omega)]
        exact d9
      · obtain ⟨u, v, Q⟩ := d10 k hk
        exact ⟨u, v, kx k u v Q⟩
      · rw [rl 113 (36 * t + 6 * u + v) (by omega)]
        rcases d11 u v hu hv with z | ⟨k, p1, p2⟩
        · exact Or.inl z
        · refine Or.inr ⟨k, p1, ?_⟩
          rcases p2 with p2 | p2
          · exact Or.inl (kx _ _ _ p2)
          · exact Or.inr (kx _ _ _ p2)
      · refine d12.trans ?_
        unfold sd_C
        congr 1
        refine List.filter_congr (fun c' _ => ?_)
        unfold rz_g
        rw [rl 113 (36 * t + c') (by omega)]
    · refine Dt.x (Nat.le_refl _) (fun p i _ => cl t p i (by omega)) (fun q i w => ?_) (fun i _ => ⟨rl 117 i (by omega), rfl⟩)
      unfold rs_w at w
      exact rl q i (by omega)
  · rw [rl 116 b (by omega), rl 117 b (by omega)]
    obtain ⟨b1, b2⟩ := A10 b hb
    refine ⟨b1, ?_⟩
    rcases b2 with q | ⟨t, k, q1, q2, q3⟩
    · exact Or.inl q
    · refine Or.inr ⟨t, k, q1, ?_, ?_⟩
      · unfold rD
        rw [cl t 0 6 (by omega)]
        exact q2
      · unfold rD
        rw [cl t 0 5 (by omega)]
        exact q3
/-- the reference's piece is set -/
def rp_w (h g : mx_H) (s u v : Nat) (d e : Int32) : Prop := g.1 = h.1 ∧ g.2.2 = h.2.2 ∧ (∀ q i, g.2.1 (.inr q) i = h.2.1 (.inr q) i) ∧ (∀ i, g.2.1 (.inl 111) i = if i = 36 * s + 6 * v + u then d else if i = 36 * s + 6 * u + v then d else h.2.1 (.inl 111) i) ∧ (∀ i, g.2.1 (.inl 112) i = if i = 36 * s + 6 * v + u then e else if i = 36 * s + 6 * u + v then e else h.2.1 (.inl 112) i) ∧ ∀ q i, q ≠ 111 → q ≠ 112 → g.2.1 (.inl q) i = h.2.1 (.inl q) i
theorem rp_w.sy (w : rp_w h g s u v d e) (ne : u ≠ v) : rp_w h g s v u d e := by
  obtain ⟨w1, w2, w3, w4, w5, w6⟩ := w
  refine ⟨w1, w2, w3, fun i => ?_, fun i => ?_, w6⟩
  · rw [w4]
    by_cases e1 : i = 36 * s + 6 * v + u
    · rw [if_pos e1, if_pos e1]
      by_cases e2 : i = 36 * s + 6 * u + v
      · rw [if_pos e2]
      · rw [if_neg e2]
    · rw [if_neg e1, if_neg e1]
  · rw [w5]
    by_cases e1 : i = 36 * s + 6 * v + u
    · rw [if_pos e1, if_pos e1]
      by_cases e2 : i = 36 * s + 6 * u + v
      · rw [if_pos e2]
      · rw [if_neg e2]
    · rw [if_neg e1, if_neg e1]
set_option maxHeartbeats 4000000 in
theorem rs_A.piece (A : rs_A hc hr S N) (hs : s < S) (Ds : rs_D hc hr N s C n F) (hk : k < n) (Q : rs_k hc hr s C F k u v) (w : rp_w hr gr s u v d e) (hde : e.toInt ≤ d.toInt) : rs_A (mx_uI (mx_uI hc (.inr (s, 7)) k d) (.inr (s, 8)) k e) gr S N := by
  obtain ⟨A1, A2, A3, A4, A5, A6, A7, A8, A9, A10⟩ := A
  obtain ⟨w1, w2, w3, w4, w5, w6⟩ := w
  have C6 := Ds.2.1
  have Qu := Q.1
  have Qv := Q.2.1
  have Qn := Q.2.2.1
  have Q6 := Q.2.2.2.2.2.1
  have Q7 := Q.2.2.2.2.2.2.1
  have cl : ∀ t p i, ¬ (t = s ∧ (p = 7 ∨ p = 8) ∧ i = k) → (mx_uI (mx_uI hc (.inr (s, 7)) k d) (.inr (s, 8)) k e).2.1 (.inr (t, p)) i = hc.2.1 (.inr (t, p)) i := fun t p i w => (if_neg (fun z => by
    have z1 := z.1
    have z2 := z.2
    cases z1
    exact w ⟨rfl, Or.inr rfl, z2⟩)).trans (if_neg (fun z => by
    have z1 := z.1
    have z2 := z.2
    cases z1
    exact w ⟨rfl, Or.inl rfl, z2⟩))
  have c7 : (mx_uI (mx_uI hc (.inr (s, 7)) k d) (.inr (s, 8)) k e).2.1 (.inr (s, 7)) k = d := by rw [rS (by decide +kernel), rI_s]
  have c8 : (mx_uI (mx_uI hc (.inr (s, 7)) k d) (.inr (s, 8)) k e).2.1 (.inr (s, 8)) k = e := rI_s
  refine ⟨A1, A2, A3, ?_, A5, ?_, A7, A8, fun t ht => ⟨(A9 t ht).1, ?_⟩, fun b hb => ?_⟩
  · unfold rD
    rw [w6 105 1 (by decide +kernel) (by decide +kernel)]
    exact A4
  · unfold rD
    rw [w6 105 12 (by decide +kernel) (by decide +kernel)]
    exact A6
  · by_cases ts : t = s
    · subst ts
      refine ⟨C, n, F, ?_⟩
      obtain ⟨d1, d2, d3, d4, d5, d6, d7, d8, d9, d10, d11, d12, d13⟩ := Ds
      have kx : ∀ k' u' v', rs_k hc hr t C F k' u' v' → rs_k (mx_uI (mx_uI hc (.inr (t, 7)) k d) (.inr (t, 8)) k e) gr t C F k' u' v' := fun k' u' v' P => by
        obtain ⟨q1, q2, q3, q4, q5, q6, q7, q8, q9, q10, q11, q12⟩ := id P
        by_cases ek : k' = k
        · subst ek
          have Q4 := Q.2.2.2.1
          have Q5 := Q.2.2.2.2.1
          have uv : (u' = u ∧ v' = v) ∨ (u' = v ∧ v' = u) := by omega
          unfold rs_k rD
          rw [cl t 5 k' (by omega), cl t 6 k' (by omega), c7, c8, w6 113 (36 * t + 6 * u' + v') (by decide +kernel) (by decide +kernel), w6 113 (36 * t + 6 * v' + u') (by decide +kernel) (by decide +kernel), w6 117 (F + k') (by decide +kernel) (by decide +kernel), w4, w4, w5, w5]
          rcases uv with ⟨e1, e2⟩ | ⟨e1, e2⟩
          · subst e1
            subst e2
            refine ⟨q1, q2, q3, q4, q5, q6, q7, ?_, ?_, ?_, ?_, q12.1, hde⟩
            · rw [if_neg (by omega), if_pos rfl]
            · rw [if_pos rfl]
            · rw [if_neg (by omega), if_pos rfl]
            · rw [if_pos rfl]
          · subst e1
            subst e2
            refine ⟨q1, q2, q3, q4, q5, q6, q7, ?_, ?_, ?_, ?_, q12.1, hde⟩
            · rw [if_pos rfl]
            · rw [if_neg (by omega), if_pos rfl]
            · rw [if_pos rfl]
            · rw [if_neg (by omega), if_pos rfl]
        · have m1 : ¬ 36 * t + 6 * u' + v' = 36 * t + 6 * v + u := fun z => by
            rw [z] at q6
            omega
          have m2 : ¬ 36 * t + 6 * u' + v' = 36 * t + 6 * u + v := fun z => by
            rw [z] at q6
            omega
          have m3 : ¬ 36 * t + 6 * v' + u' = 36 * t + 6 * v + u := fun z => by
            rw [z] at q7
            omega
          have m4 : ¬ 36 * t + 6 * v' + u' = 36 * t + 6 * u + v := fun z => by
            rw [z] at q7
            omega
          unfold rs_k rD
          rw [cl t 5 k' (by omega), cl t 6 k' (by omega), cl t 7 k' (by omega), cl t 8 k' (by omega), w6 113 (36 * t + 6 * u' + v') (by decide +kernel) (by decide +kernel), w6 113 (36 * t + 6 * v' + u') (by decide +kernel) (by decide +kernel), w6 117 (F + k') (by decide +kernel) (by decide +kernel), w4, w4, w5, w5, if_neg m1, if_neg m2, if_neg m3, if_neg m4, if_neg m1, if_neg m2, if_neg m3, if_neg m4]
          exact ⟨q1, q2, q3, q4, q5, q6, q7, q8, q9, q10, q11, q12⟩
      refine ⟨d1, d2, d3, ?_, ?_, ?_, ?_, fun i hi => ?_, ?_, fun k hk => ?_, fun u v hu hv => ?_, ?_, d13⟩
      · unfold rD
        rw [cl t 0 0 (by omega)]
        exact d4
      · unfold rD
        rw [w6 106 t (by decide +kernel) (by decide +kernel)]
        exact d5
      · unfold rD
        rw [cl t 0 6 (by omega)]
        exact d6
      · unfold rD
        rw [cl t 0 5 (by omega)]
        exact d7
      · rw [cl t 1 i (by omega), cl t 2 i (by omega), cl t 3 i (by omega), cl t 4 i (by omega), w6 107 _ (by decide +kernel) (by decide +kernel), w6 108 _ (by decide +kernel) (by decide +kernel), w6 109 _ (by decide +kernel) (by decide +kernel), w6 110 _ (by decide +kernel) (by decide +kernel)]
        exact d8 i hi
      · rw [cl t 0 11 (by omega), cl t 0 12 (by omega), w6 114 t (by decide +kernel) (by decide +kernel), w6 115 t (by decide +kernel) (by decide +kernel)]
        exact d9
      · obtain ⟨u, v, P⟩ := d10 k hk
        exact ⟨u, v, kx k u v P⟩
      · rw [w6 113 _ (by decide +kernel) (by decide +kernel)]
        rcases d11 u v hu hv with z | ⟨k, p1, p2⟩
        · exact Or.inl z
        · refine Or.inr ⟨k, p1, ?_⟩
          rcases p2 with p2 | p2
          · exact Or.inl (kx _ _ _ p2)
          · exact Or.inr (kx _ _ _ p2)
      · refine d12.trans ?_
        unfold sd_C
        congr 1
        refine List.filter_congr (fun c' _ => ?_)
        unfold rz_g
        rw [w6 113 _ (by decide +kernel) (by decide +kernel)]
    · obtain ⟨C', n', F', Dt⟩ := (A9 t ht).2
      refine ⟨C', n', F', Dt.x (Nat.le_refl _) (fun p i _ => cl t p i (by omega)) (fun q i z => ?_) (fun i _ => ⟨w6 117 i (by decide +kernel) (by decide +kernel), rfl⟩)⟩
      unfold rs_w at z
      by_cases q1 : q = 111
      · subst q1
        rw [w4, if_neg (by omega), if_neg (by omega)]
      · by_cases q2 : q = 112
        · subst q2
          rw [w5, if_neg (by omega), if_neg (by omega)]
        · exact w6 q i q1 q2
  · rw [w6 116 b (by decide +kernel) (by decide +kernel), w6 117 b (by decide +kernel) (by decide +kernel)]
    obtain ⟨b1, b2⟩ := A10 b hb
    refine ⟨b1, ?_⟩
    rcases b2 with q | ⟨t, k, q1, q2, q3⟩
    · exact Or.inl q
    · refine Or.inr ⟨t, k, q1, ?_, ?_⟩
      · unfold rD
        rw [cl t 0 6 (by omega)]
        exact q2
      · unfold rD
        rw [cl t 0 5 (by omega)]
        exact q3
/-- setStiff at the place of a piece -/
theorem R199 {p : Int32} {b : Nat} (hp : p.toInt = ((36 * s + 6 * u + v : Nat) : Int)) (hu : u < 6) (hv : v < 6) (ne : u ≠ v) (s12 : s ≤ 12) (b1 : rD hr (.inl 113) (36 * s + 6 * u + v) = ((b + 1 : Nat) : Int)) (b2 : rD hr (.inl 113) (36 * s + 6 * v + u) = ((b + 1 : Nat) : Int)) (bb : b < 1000) : rp_w hr (f199 p d e hr) s u v d e := by
  obtain ⟨p1, p2, p3⟩ := R_dec hp hu hv s12
  have bm : hr.2.1 (.inl 113) (36 * s + 6 * u + v) - 1 + 1 = hr.2.1 (.inl 113) (36 * s + 6 * u + v) := i_eq (i_add (i_sub b1 k_1 (by omega) (by omega)) k_1 (by omega) (by omega)) b1 (by omega)
  have bs : hr.2.1 (.inl 113) (36 * s + 6 * v + u) = hr.2.1 (.inl 113) (36 * s + 6 * u + v) := i_eq b2 b1 rfl
  have E : f199 p d e hr = k_p (k_p hr (36 * s + 6 * u + v) (hr.2.1 (.inl 113) (36 * s + 6 * u + v) - 1) d e) (36 * s + 6 * v + u) (hr.2.1 (.inl 113) (36 * s + 6 * u + v) - 1) d e := by
    rw [f199_eq, i_cl hp, k181 p1 p2 p3 s12 hu hv]
    rfl
  rw [E]
  refine ⟨rfl, rfl, fun _ _ => rfl, fun i => by rw [k_p1, k_p1], fun i => by rw [k_p2, k_p2], fun q i q1 q2 => ?_⟩
  by_cases q3 : q = 113
  · subst q3
    rw [k_p3, k_p3, bm]
    by_cases e1 : i = 36 * s + 6 * v + u
    · rw [if_pos e1, e1, bs]
    · rw [if_neg e1]
      by_cases e2 : i = 36 * s + 6 * u + v
      · rw [if_pos e2, e2]
      · rw [if_neg e2]
  · rw [k_po q1 q2 q3, k_po q1 q2 q3]
/-- the piece between two corners, asked on both sides -/
theorem rs_pb (Ds : rs_D hc hr N s C n F) (n15 : n ≤ 15) (N2 : N ≤ 200) (s12 : s ≤ 12) (ha : a.toInt = (s : Int)) (hx : x.toInt = (u : Int)) (hy : y.toInt = (v : Int)) (hu : u < C) (hv : v < C) :
    (∃ k, k < n ∧ u ≠ v ∧ (f61 s x y hc).toInt = (k : Int) ∧ (rs_k hc hr s C F k u v ∨ rs_k hc hr s C F k v u) ∧ f180 a x y hr = 1 ∧ (f179 a x y).toInt = ((36 * s + 6 * u + v : Nat) : Int)) ∨ (f61 s x y hc = -1 ∧ (u = v ∨ (u ≠ v ∧ f180 a x y hr = 0))) := by
  obtain ⟨d1, d2, d3, d4, d5, d6, d7, d8, d9, d10, d11, d12, d13⟩ := id Ds
  have W := w179 ha hx hy s12 (show u < 6 by omega) (show v < 6 by omega)
  have f180' : f180 a x y hr = if hr.2.1 (.inl 113) (36 * s + 6 * u + v) ≤ 0 then 0 else 1 := by rw [f180_eq, i_cl W]
  rcases k61 (a := x) (b := y) d6 n15 with ⟨k, k1, k2, k3, k4⟩ | ⟨k1, k2⟩
  · obtain ⟨u', v', Q⟩ := d10 k k1
    have q4 := Q.2.2.2.1
    have q5 := Q.2.2.2.2.1
    have qn := Q.2.2.1
    have m1 := k_mn_v hx hy
    have m2 := k_mx_v hx hy
    unfold rD at q4 q5
    rw [k2, m1] at q4
    rw [k3, m2] at q5
    have uv : (u' = u ∧ v' = v) ∨ (u' = v ∧ v' = u) := by omega
    have P : rs_k hc hr s C F k u v ∨ rs_k hc hr s C F k v u := by
      rcases uv with ⟨t1, t2⟩ | ⟨t1, t2⟩
      · rw [t1, t2] at Q
        exact Or.inl Q
      · rw [t1, t2] at Q
        exact Or.inr Q
    have b1 : rD hr (.inl 113) (36 * s + 6 * u + v) = ((F + k + 1 : Nat) : Int) := by
      rcases P with P | P
      · exact P.2.2.2.2.2.1
      · exact P.2.2.2.2.2.2.1
    refine Or.inl ⟨k, k1, by omega, k4, P, ?_, W⟩
    rw [f180', if_neg (i_nle b1 k_0 (by omega))]
  · refine Or.inr ⟨k2, ?_⟩
    by_cases e : u = v
    · exact Or.inl e
    · refine Or.inr ⟨e, ?_⟩
      rw [f180']
      rcases d11 u v (by omega) (by omega) with z | ⟨k, p1, p2⟩
      · rw [z]
        rfl
      · exfalso
        have m1 := k_mn_v hx hy
        have m2 := k_mx_v hx hy
        refine k1 k p1 ⟨?_, ?_⟩
        · rcases p2 with p2 | p2
          · exact i_eq p2.2.2.2.1 m1 (by omega)
          · exact i_eq p2.2.2.2.1 m1 (by omega)
        · rcases p2 with p2 | p2
          · exact i_eq p2.2.2.2.2.1 m2 (by omega)
          · exact i_eq p2.2.2.2.2.1 m2 (by omega)
/-- an entry more -/
theorem rh_add (H : rh_H hc hr S V D U) (hm : E + m = D) (E40 : E < 40) (c1 : ∀ j, j < E → gc.2.2.2 (.inl 85) j = hc.2.2.2 (.inl 85) (j + m) ∧ ∀ q, 86 ≤ q → q ≤ 89 → gc.2.1 (.inl q) j = hc.2.1 (.inl q) (j + m)) (r1 : ∀ j, j < E → ∀ q, 123 ≤ q → q ≤ 127 → gr.2.1 (.inl q) j = hr.2.1 (.inl q) (j + m)) (sc : rh_s S hc gc)
    (c2 : rD gc (.inl 84) 0 = ((E + 1 : Nat) : Int)) (c3 : rD gc (.inl 84) 1 = 0) (r2 : rD gr (.inl 105) 24 = ((E + 1 : Nat) : Int)) (r3 : rD gr (.inl 105) 25 = 0)
    (new : rh_e gc gr S (fun j s k => if j ≤ E then V (j + m) s k else rD gc (.inr (s, 7)) k) E) : rh_H gc gr S (fun j s k => if j ≤ E then V (j + m) s k else rD gc (.inr (s, 7)) k) (E + 1) 0 := by
  obtain ⟨h1, h2, h3, h4, h5, h6, h7⟩ := H
  refine ⟨c2, c3, r2, r3, by omega, fun s k _ => if_neg (by omega), fun j hj => ?_⟩
  by_cases e : j = E
  · rw [e]
    exact new
  · refine rh_e.x (m := m) (V := V) (c1 j (by omega)).1 (c1 j (by omega)).2 (r1 j (by omega)) sc (Nat.le_refl _) (fun s k _ => ⟨if_pos (by omega), ?_⟩) (fun s k l1 l2 => by omega) (h7 (j + m) (by omega))
    rw [if_pos (by omega), show j + 1 + m = j + m + 1 by omega]
end REE
/-! ===== put, crack, stroke: alike, and told alike ===== -/
section RFF
variable {h h' g hc hr gc gr : mx_H} {S N s i j n m k c C F u v o D U E : Nat} {a a1 a2 a3 a4 a5 b1 p x y d e w : Int32} {V : Nat → Nat → Nat → Int}
theorem k_40 : (40 : Int32).toInt = 40 := rfl
theorem rs_u.refl : rs_u S h h := ⟨rfl, rfl, fun _ => rfl, fun _ => rfl, rfl, rfl, fun _ => rfl, fun _ _ _ _ _ => rfl⟩
theorem rs_v.refl : rs_v S h h := ⟨rfl, rfl, fun _ => rfl, fun _ => rfl, fun _ _ _ _ _ => rfl⟩
/-- fields' numbers: the class's, the reference's -/
def rq_f (o : Nat) (a1 b1 : Int32) : Prop := (o = 2 ∧ a1 = 0 ∧ b1 = 0) ∨ (o = 3 ∧ a1 = 1 ∧ b1 = 1) ∨ (o = 1 ∧ a1 = 3 ∧ b1 = 5) ∨ (o = 4 ∧ a1 = 2 ∧ b1 = 2)
theorem rq_f.bd (f : rq_f o a1 b1) : 1 ≤ o ∧ o ≤ 4 := by
  unfold rq_f at f
  omega
theorem C66c (f : rq_f o a1 b1) (ha : a2.toInt = (c : Int)) : f66 s a1 a2 h = h.2.1 (.inr (s, o)) c := by
  rw [f66_eq]
  rcases f with ⟨t, e1, -⟩ | ⟨t, e1, -⟩ | ⟨t, e1, -⟩ | ⟨t, e1, -⟩
  · rw [t, e1, if_pos rfl, g66_32_eq, i_cl ha]
  · rw [t, e1, if_neg (by decide +kernel), if_pos rfl, g66_39_eq, i_cl ha]
  · rw [t, e1, if_neg (by decide +kernel), if_neg (by decide +kernel), if_neg (by decide +kernel), if_pos rfl, g66_53_eq, i_cl ha]
  · rw [t, e1, if_neg (by decide +kernel), if_neg (by decide +kernel), if_pos rfl, g66_46_eq, i_cl ha]
theorem C67c (f : rq_f o a1 b1) (ha : a2.toInt = (c : Int)) : f67 s a1 a2 w h = mx_uI h (.inr (s, o)) c w := by
  rw [f67_eq]
  rcases f with ⟨t, e1, -⟩ | ⟨t, e1, -⟩ | ⟨t, e1, -⟩ | ⟨t, e1, -⟩
  · rw [t, e1, if_pos rfl, g67_32_eq, i_cl ha]
  · rw [t, e1, if_neg (by decide +kernel), if_pos rfl, g67_42_eq, i_cl ha]
  · rw [t, e1, if_neg (by decide +kernel), if_neg (by decide +kernel), if_neg (by decide +kernel), if_pos rfl, g67_62_eq, i_cl ha]
  · rw [t, e1, if_neg (by decide +kernel), if_neg (by decide +kernel), if_pos rfl, g67_52_eq, i_cl ha]
theorem R200c {q : Nat} (f : rq_f o a1 b1) (hp : p.toInt = (q : Int)) (b : o = 4 → w = 0 ∨ w = 1) : f200 b1 p w a5 h = mx_uI h (.inl (106 + o)) q w := by
  rw [f200_eq]
  rcases f with ⟨t, -, e1⟩ | ⟨t, -, e1⟩ | ⟨t, -, e1⟩ | ⟨t, -, e1⟩
  · rw [t, e1, if_pos rfl, g200_36_eq, i_cl hp]
  · rw [t, e1, if_neg (by decide +kernel), if_pos rfl, g200_46_eq, i_cl hp]
  · rw [t, e1, if_neg (by decide +kernel), if_neg (by decide +kernel), if_neg (by decide +kernel), if_neg (by decide +kernel), if_neg (by decide +kernel), g200_101_eq, i_cl hp]
  · rw [t, e1, if_neg (by decide +kernel), if_neg (by decide +kernel), if_pos rfl, g200_56_eq, i_cl hp]
    rcases b t with e2 | e2
    · rw [e2, if_pos (by decide +kernel)]
      rfl
    · rw [e2, if_neg (by decide +kernel)]
      rfl
theorem C17f (hD : rD h (.inl 84) 0 = D) (D40 : D ≤ 40) (R : ∀ j, j < D → ∃ t, h.2.2.2 (.inl 85) j = some (.inr (t, 0))) : rh_fc h (f17 s a2 a3 a4 a5 h) := by
  rcases C17 (s := s) (a2 := a2) (a3 := a3) (a4 := a4) (a5 := a5) hD D40 R with ⟨-, K⟩ | ⟨-, K⟩
  · exact K.1
  · exact K.1
theorem R198f (hD : rD h (.inl 105) 24 = D) (D40 : D ≤ 40) : rh_fr h (f198 a1 a2 a3 a4 a5 h) := by
  rcases R198 (a1 := a1) (a2 := a2) (a3 := a3) (a4 := a4) (a5 := a5) hD D40 with ⟨-, K⟩ | ⟨-, K⟩
  · exact K.1
  · exact K.1
theorem rh_H.R (H : rh_H hc hr S V D U) : ∀ j, j < D → ∃ t, hc.2.2.2 (.inl 85) j = some (.inr (t, 0)) := fun j hj => by
  obtain ⟨s, -, e, -⟩ := H.2.2.2.2.2.2 j (by omega)
  exact ⟨s, e⟩
/-- both sides: an entry more; what it is of is told by the new heaps -/
theorem rq_add {kc : mx_H} (H : rh_H hc hr S V D U) (k84 : rD kc (.inl 84) 0 = D) (k85 : ∀ i, kc.2.2.2 (.inl 85) i = hc.2.2.2 (.inl 85) i) (kq : ∀ q i, 86 ≤ q → q ≤ 89 → kc.2.1 (.inl q) i = hc.2.1 (.inl q) i) (ks : rh_s S hc kc) (gq : ∀ q i, 123 ≤ q → q ≤ 127 → gr.2.1 (.inl q) i = (f198 b1 p x y w hr).2.1 (.inl q) i) (g24 : ∀ i, i = 24 ∨ i = 25 → gr.2.1 (.inl 105) i = (f198 b1 p x y w hr).2.1 (.inl 105) i)
    (new : ∀ (V' : Nat → Nat → Nat → Int) (gc : mx_H) (E : Nat), gc.2.2.2 (.inl 85) E = some (.inr (s, 0)) → gc.2.1 (.inl 86) E = a2 → gc.2.1 (.inl 87) E = a3 → gc.2.1 (.inl 88) E = a4 → gc.2.1 (.inl 89) E = a5 → gr.2.1 (.inl 123) E = b1 → gr.2.1 (.inl 124) E = p → gr.2.1 (.inl 125) E = x → gr.2.1 (.inl 126) E = y → gr.2.1 (.inl 127) E = w → (∀ q i, gc.2.1 (.inr q) i = kc.2.1 (.inr q) i) → (∀ t k, t < S → V' E t k = rD hc (.inr (t, 7)) k) → (∀ t k, t < S → V' (E + 1) t k = rD kc (.inr (t, 7)) k) → rh_e gc gr S V' E) :
    ∃ V' D' U', rh_H (f17 s a2 a3 a4 a5 kc) gr S V' D' U' := by
  obtain ⟨h1, h2, h3, h4, h5, h6, h7⟩ := id H
  have go : ∀ E m, E + m = D → E < 40 → ka_C kc (f17 s a2 a3 a4 a5 kc) s a2 a3 a4 a5 E m → ka_R hr (f198 b1 p x y w hr) b1 p x y w E m → ∃ V' D' U', rh_H (f17 s a2 a3 a4 a5 kc) gr S V' D' U' := fun E m hm E40 KC KR => by
    obtain ⟨k1, k2, k3, k4, k5, k6, k7, k8, k9⟩ := KC
    obtain ⟨r1, r2, r3, r4, r5, r6, r7, r8, r9⟩ := KR
    refine ⟨_, E + 1, 0, rh_add H hm E40 (fun j hj => ⟨(k4 j hj).1.trans (k85 _), fun q l1 l2 => ((k4 j hj).2 q l1 l2).trans (kq q _ l1 l2)⟩) (fun j hj q l1 l2 => (gq q j l1 l2).trans (r4 j hj q l1 l2)) (fun t ht => ⟨(k1.2.2.1 (t, 0) 6).trans (ks t ht).1, fun k => ⟨(k1.2.2.1 (t, 5) k).trans ((ks t ht).2 k).1, (k1.2.2.1 (t, 6) k).trans ((ks t ht).2 k).2⟩⟩) k2 k3 ?_ ?_ (new _ _ _ k5 k6 k7 k8 k9 ?_ ?_ ?_ ?_ ?_ k1.2.2.1 (fun t k ht => ?_) (fun t k ht => ?_))⟩
    · unfold rD
      rw [g24 24 (Or.inl rfl)]
      exact r2
    · unfold rD
      rw [g24 25 (Or.inr rfl)]
      exact r3
    · exact (gq 123 E (by decide +kernel) (by decide +kernel)).trans r5
    · exact (gq 124 E (by decide +kernel) (by decide +kernel)).trans r6
    · exact (gq 125 E (by decide +kernel) (by decide +kernel)).trans r7
    · exact (gq 126 E (by decide +kernel) (by decide +kernel)).trans r8
    · exact (gq 127 E (by decide +kernel) (by decide +kernel)).trans r9
    · show (if E ≤ E then V (E + m) t k else rD (f17 s a2 a3 a4 a5 kc) (.inr (t, 7)) k) = _
      rw [if_pos (Nat.le_refl _), hm]
      exact h6 t k ht
    · show (if E + 1 ≤ E then V (E + 1 + m) t k else rD (f17 s a2 a3 a4 a5 kc) (.inr (t, 7)) k) = _
      rw [if_neg (by omega)]
      unfold rD
      rw [k1.2.2.1 (t, 7) k]
  have R' : ∀ j, j < D → ∃ t, kc.2.2.2 (.inl 85) j = some (.inr (t, 0)) := fun j hj => by
    obtain ⟨t, e⟩ := H.R j hj
    exact ⟨t, (k85 j).trans e⟩
  rcases C17 (s := s) (a2 := a2) (a3 := a3) (a4 := a4) (a5 := a5) k84 (by omega) R' with ⟨c1, KC⟩ | ⟨c1, KC⟩
  · rcases R198 (a1 := b1) (a2 := p) (a3 := x) (a4 := y) (a5 := w) h3 (by omega) with ⟨-, KR⟩ | ⟨c2, KR⟩
    · exact go D 0 rfl c1 KC KR
    · omega
  · rcases R198 (a1 := b1) (a2 := p) (a3 := x) (a4 := y) (a5 := w) h3 (by omega) with ⟨c2, KR⟩ | ⟨-, KR⟩
    · omega
    · exact go 39 1 (by omega) (by omega) KC KR
/-- a corner is set and told, on both sides -/
theorem rq_corner (A : rs_A hc hr S N) (H : rh_H hc hr S V D U) (hs : s < S) (c6 : c < 6) (f : rq_f o a1 b1) (ha : a2.toInt = (c : Int)) (hp : p.toInt = ((6 * s + c : Nat) : Int)) (ew : hc.2.1 (.inr (s, o)) c = w) (b4 : o = 4 → (w = 0 ∨ w = 1) ∧ (x = 0 ∨ x = 1)) :
    rs_A (f17 s a1 a2 w x (mx_uI hc (.inr (s, o)) c x)) (mx_uI (f198 b1 p w x 0 hr) (.inl (106 + o)) (6 * s + c) x) S N ∧ ∃ V' D' U', rh_H (f17 s a1 a2 w x (mx_uI hc (.inr (s, o)) c x)) (mx_uI (f198 b1 p w x 0 hr) (.inl (106 + o)) (6 * s + c) x) S V' D' U' := by
  obtain ⟨h1, h2, h3, h4, h5, h6, h7⟩ := id H
  obtain ⟨o1, o4⟩ := f.bd
  have fr := R198f (a1 := b1) (a2 := p) (a3 := w) (a4 := x) (a5 := 0) h3 (by omega)
  have fc := C17f (s := s) (a2 := a1) (a3 := a2) (a4 := w) (a5 := x) (h := mx_uI hc (.inr (s, o)) c x) (D := D) h1 (by omega) H.R
  refine ⟨(((A.g rs_u.refl fr.v).corner hs o1 o4 c6).g fc.u rs_v.refl), rq_add (b1 := b1) (p := p) (x := w) (y := x) (w := 0) H (kc := mx_uI hc (.inr (s, o)) c x) h1 (fun _ => rfl) (fun _ _ _ _ => rfl) (fun t ht => ⟨?_, fun k => ⟨?_, ?_⟩⟩) (fun q i l1 l2 => ?_) (fun i hi => ?_) (fun V' g E k5 k6 k7 k8 k9 r5 r6 r7 r8 r9 gi v0 v1 => ?_)⟩
  · exact rI_a (fun z => by
      cases z
      omega)
  · exact rI_a (fun z => by
      cases z
      omega)
  · exact rI_a (fun z => by
      cases z
      omega)
  · rw [rN (by omega)]
  · rw [rN (by omega)]
  · refine ⟨s, hs, k5, Or.inl ⟨⟨o, c, c6, ?_, ?_, ?_, ?_, ?_⟩, fun t k ht => ?_⟩⟩
    · unfold rD
      rw [k7]
      exact ha
    · unfold rD
      rw [r6]
      exact hp
    · rw [k8, r7]
    · rw [k9, r8]
    · rw [k6, r5, k8, k9]
      rcases f with ⟨t, q1, q2⟩ | ⟨t, q1, q2⟩ | ⟨t, q1, q2⟩ | ⟨t, q1, q2⟩
      · exact Or.inl ⟨t, q1, q2⟩
      · exact Or.inr (Or.inl ⟨t, q1, q2⟩)
      · exact Or.inr (Or.inr (Or.inl ⟨t, q1, q2⟩))
      · exact Or.inr (Or.inr (Or.inr ⟨t, q1, q2, (b4 t).1, (b4 t).2⟩))
    · rw [v0 t k ht, v1 t k ht]
      unfold rD
      rw [rI_a (fun z => by
        cases z
        omega)]
theorem rs_k.b (Q : rs_k hc hr s C F k u v ∨ rs_k hc hr s C F k v u) : u < C ∧ v < C ∧ u ≠ v ∧ rD hc (.inr (s, 5)) k = ((min u v : Nat) : Int) ∧ rD hc (.inr (s, 6)) k = ((max u v : Nat) : Int) ∧ rD hr (.inl 113) (36 * s + 6 * u + v) = ((F + k + 1 : Nat) : Int) ∧ rD hr (.inl 113) (36 * s + 6 * v + u) = ((F + k + 1 : Nat) : Int) ∧ hr.2.1 (.inl 111) (36 * s + 6 * u + v) = hc.2.1 (.inr (s, 7)) k ∧ hr.2.1 (.inl 112) (36 * s + 6 * u + v) = hc.2.1 (.inr (s, 8)) k := by
  rcases Q with Q | Q
  · exact ⟨Q.1, Q.2.1, Q.2.2.1, Q.2.2.2.1, Q.2.2.2.2.1, Q.2.2.2.2.2.1, Q.2.2.2.2.2.2.1, Q.2.2.2.2.2.2.2.1, Q.2.2.2.2.2.2.2.2.2.1⟩
  · have q1 := Q.2.2.1
    have q2 := Q.2.2.2.1
    have q3 := Q.2.2.2.2.1
    exact ⟨Q.2.1, Q.1, by omega, by omega, by omega, Q.2.2.2.2.2.2.1, Q.2.2.2.2.2.1, Q.2.2.2.2.2.2.2.2.1, Q.2.2.2.2.2.2.2.2.2.2.1⟩
theorem rs_A.piece2 (A : rs_A hc hr S N) (hs : s < S) (Ds : rs_D hc hr N s C n F) (hk : k < n) (Q : rs_k hc hr s C F k u v ∨ rs_k hc hr s C F k v u) (w : rp_w hr gr s u v d e) (hde : e.toInt ≤ d.toInt) : rs_A (mx_uI (mx_uI hc (.inr (s, 7)) k d) (.inr (s, 8)) k e) gr S N := by
  rcases Q with Q | Q
  · exact A.piece hs Ds hk Q w hde
  · exact A.piece hs Ds hk Q (w.sy (fun z => Q.2.2.1 z.symm)) hde
theorem rs_k.le (Q : rs_k hc hr s C F k u v ∨ rs_k hc hr s C F k v u) : rD hc (.inr (s, 8)) k ≤ rD hc (.inr (s, 7)) k := by
  rcases Q with Q | Q
  · exact Q.2.2.2.2.2.2.2.2.2.2.2.2
  · exact Q.2.2.2.2.2.2.2.2.2.2.2.2
/-- a piece is set and told, on both sides -/
theorem rq_piece {X Y cb ca : Int} (A : rs_A hc hr S N) (H : rh_H hc hr S V D U) (hs : s < S) (Ds : rs_D hc hr N s C n F) (hk : k < n) (Q : rs_k hc hr s C F k u v ∨ rs_k hc hr s C F k v u) (ha : a2.toInt = (k : Int)) (hp : p.toInt = ((36 * s + 6 * u + v : Nat) : Int)) (e4 : a4.toInt = 10 * X + cb) (e5 : a5.toInt = 10 * Y + ca) (bX : 0 ≤ X ∧ X ≤ 9 ∧ 0 ≤ Y ∧ Y ≤ 9 ∧ 0 ≤ cb ∧ cb ≤ 9 ∧ 0 ≤ ca ∧ ca ≤ 9 ∧ cb ≤ X ∧ ca ≤ Y) (hE : e.toInt = ca) (hX : rD hc (.inr (s, 7)) k = X) (hY : d.toInt = Y)
    (cd : (b1 = 3 ∧ x.toInt = cb ∧ y.toInt = ca ∧ X = Y) ∨ (b1 = 4 ∧ x.toInt = X ∧ y.toInt = Y ∧ w.toInt = cb ∧ ca = min cb Y)) (W : rp_w (f198 b1 p x y w hr) gr s u v d e) :
    rs_A (f17 s 4 a2 a4 a5 (mx_uI (mx_uI hc (.inr (s, 7)) k d) (.inr (s, 8)) k e)) gr S N ∧ ∃ V' D' U', rh_H (f17 s 4 a2 a4 a5 (mx_uI (mx_uI hc (.inr (s, 7)) k d) (.inr (s, 8)) k e)) gr S V' D' U' := by
  obtain ⟨h1, h2, h3, h4, h5, h6, h7⟩ := id H
  have C6 := Ds.2.1
  have fr := R198f (a1 := b1) (a2 := p) (a3 := x) (a4 := y) (a5 := w) h3 (by omega)
  have fc := C17f (s := s) (a2 := 4) (a3 := a2) (a4 := a4) (a5 := a5) (h := mx_uI (mx_uI hc (.inr (s, 7)) k d) (.inr (s, 8)) k e) (D := D) h1 (by omega) H.R
  have fv := fr.v (S := S)
  have fnN := Ds.2.2.1
  have Ds' : rs_D hc (f198 b1 p x y w hr) N s C n F := Ds.x (Nat.le_refl _) (fun _ _ _ => rfl) (fv.2.2.2.2 s hs) (fun i _ => ⟨fv.2.2.2.1 i, rfl⟩)
  have kx : ∀ u v, rs_k hc hr s C F k u v → rs_k hc (f198 b1 p x y w hr) s C F k u v := fun u v q => rs_k.x C6 (N := N) (by omega) (fun _ _ _ => rfl) (fv.2.2.2.2 s hs) (fun i _ => fv.2.2.2.1 i) q
  have Q' : rs_k hc (f198 b1 p x y w hr) s C F k u v ∨ rs_k hc (f198 b1 p x y w hr) s C F k v u := by
    rcases Q with q | q
    · exact Or.inl (kx _ _ q)
    · exact Or.inr (kx _ _ q)
  have A' : rs_A hc (f198 b1 p x y w hr) S N := A.g rs_u.refl fv
  have cl : ∀ t q i, ¬ (t = s ∧ (q = 7 ∨ q = 8) ∧ i = k) → (mx_uI (mx_uI hc (.inr (s, 7)) k d) (.inr (s, 8)) k e).2.1 (.inr (t, q)) i = hc.2.1 (.inr (t, q)) i := fun t q i z => (if_neg (fun z' => by
    have z1 := z'.1
    have z2 := z'.2
    cases z1
    exact z ⟨rfl, Or.inr rfl, z2⟩)).trans (if_neg (fun z' => by
    have z1 := z'.1
    have z2 := z'.2
    cases z1
    exact z ⟨rfl, Or.inl rfl, z2⟩))
  obtain ⟨q1, q2, q3, q4, q5, q6, q7, q8, q9⟩ := rs_k.b Q
  have n6 := Ds.2.2.2.2.2.1
  refine ⟨(A'.piece2 hs Ds' hk Q' W (by omega)).g fc.u rs_v.refl, rq_add (b1 := b1) (p := p) (x := x) (y := y) (w := w) H (kc := mx_uI (mx_uI hc (.inr (s, 7)) k d) (.inr (s, 8)) k e) h1 (fun _ => rfl) (fun _ _ _ _ => rfl) (fun t ht => ⟨cl t 0 6 (by omega), fun i => ⟨cl t 5 i (by omega), cl t 6 i (by omega)⟩⟩) (fun q i l1 l2 => W.2.2.2.2.2 q i (by omega) (by omega)) (fun i hi => W.2.2.2.2.2 105 i (by omega) (by omega)) (fun V' g E k5 k6 k7 k8 k9 r5 r6 r7 r8 r9 gi v0 v1 => ?_)⟩
  have c7 : (mx_uI (mx_uI hc (.inr (s, 7)) k d) (.inr (s, 8)) k e).2.1 (.inr (s, 7)) k = d := by rw [rS (by decide +kernel), rI_s]
  refine ⟨s, hs, k5, Or.inr ⟨k, u, v, X, Y, cb, ca, k6, ?_, ?_, ⟨by omega, by omega, q3⟩, ?_, ?_, ?_, ?_, ?_, bX, ?_, ?_, fun t i ht z => ?_, ?_⟩⟩
  · unfold rD
    rw [k7]
    exact ha
  · unfold rD
    rw [gi (s, 0) 6, cl s 0 6 (by omega)]
    unfold rD at n6
    omega
  · unfold rD
    rw [gi (s, 5) k, cl s 5 k (by omega)]
    exact q4
  · unfold rD
    rw [gi (s, 6) k, cl s 6 k (by omega)]
    exact q5
  · unfold rD
    rw [r6]
    exact hp
  · unfold rD
    rw [k8]
    exact e4
  · unfold rD
    rw [k9]
    exact e5
  · rw [v0 s k hs]
    exact hX
  · rw [v1 s k hs]
    unfold rD
    rw [c7]
    exact hY
  · rw [v0 t i ht, v1 t i ht]
    unfold rD
    rw [cl t 7 i (fun z' => z ⟨z'.1, z'.2.2⟩)]
  · unfold rD
    rw [r5, r7, r8, r9]
    exact cd
theorem C170c (f : rq_f o a1 b1) (ha : a2.toInt = (c : Int)) : f170 s a1 a2 x h = if h.2.1 (.inr (s, o)) c = x then (h.2.1 (.inr (s, o)) c, h) else (h.2.1 (.inr (s, o)) c, f17 s a1 a2 (h.2.1 (.inr (s, o)) c) x (mx_uI h (.inr (s, o)) c x)) := by
  rw [f170_eq, C66c f ha, C67c f ha]
  rfl
/-- what a setting of a corner answers, on both sides -/
theorem rq_put (A : rs_A hc hr S N) (H : rh_H hc hr S V D U) (hs : s < S) (c6 : c < 6) (f : rq_f o a1 b1) (ha : a2.toInt = (c : Int)) (hp : p.toInt = ((6 * s + c : Nat) : Int)) (ew : hc.2.1 (.inr (s, o)) c = w) (b4 : o = 4 → (w = 0 ∨ w = 1) ∧ (x = 0 ∨ x = 1)) {rr : Int32 × mx_H} (er : rr = if w ≠ x then (w, f200 b1 p x 0 (f198 b1 p w x 0 hr)) else (w, hr)) :
    (f170 s a1 a2 x hc).1 = rr.1 ∧ rs_A (f170 s a1 a2 x hc).2 rr.2 S N ∧ ∃ V' D' U', rh_H (f170 s a1 a2 x hc).2 rr.2 S V' D' U' := by
  rw [er, C170c f ha, ew, R200c f hp (fun t => (b4 t).2)]
  by_cases e : w = x
  · rw [if_pos e, if_neg (fun z => z e)]
    exact ⟨rfl, A, V, D, U, H⟩
  · rw [if_neg e, if_pos e]
    exact ⟨rfl, rq_corner A H hs c6 f ha hp ew b4⟩
set_option maxHeartbeats 8000000 in
/-- put -/
theorem rs_put (A : rs_A hc hr S N) (H : rh_H hc hr S V D U) (hb : ∀ i, hr.2.1 (.inl 110) i = 0 ∨ hr.2.1 (.inl 110) i = 1) : (f106 a1 a2 a3 a4 hc).1 = (f201 a1 a2 a3 a4 hr).1 ∧ rs_A (f106 a1 a2 a3 a4 hc).2 (f201 a1 a2 a3 a4 hr).2 S N ∧ ∃ V' D' U', rh_H (f106 a1 a2 a3 a4 hc).2 (f201 a1 a2 a3 a4 hr).2 S V' D' U' := by
  obtain ⟨A1, A2, A3, A4, A5, A6, A7, A8, A9, A10⟩ := id A
  have bad : g201_46 hr = (-1, hr) := g201_46_eq hr
  have fin : f106 a1 a2 a3 a4 hc = (-1, hc) → f201 a1 a2 a3 a4 hr = (-1, hr) → (f106 a1 a2 a3 a4 hc).1 = (f201 a1 a2 a3 a4 hr).1 ∧ rs_A (f106 a1 a2 a3 a4 hc).2 (f201 a1 a2 a3 a4 hr).2 S N ∧ ∃ V' D' U', rh_H (f106 a1 a2 a3 a4 hc).2 (f201 a1 a2 a3 a4 hr).2 S V' D' U' := fun q1 q2 => by
    rw [q1, q2]
    exact ⟨rfl, A, V, D, U, H⟩
  rcases C166 (a := a1) A with ⟨s, lt, h1, e1, e1'⟩ | ⟨e1, e1'⟩
  · obtain ⟨C, n, F, Ds⟩ := (A9 s lt).2
    rcases C164 (x := a2) h1 Ds.2.2.2.1 Ds.2.2.2.2.1 Ds.2.1 with ⟨c, hc1, hx, g1, g1'⟩ | ⟨g1, g1'⟩
    · have C6 := Ds.2.1
      have hp := w6 h1 hx (show s ≤ 12 by omega) (show c < 6 by omega)
      obtain ⟨b1, b2, b3, b4⟩ := Ds.2.2.2.2.2.2.2.1 c hc1
      have K : f106 a1 a2 a3 a4 hc = if f157 a3 0 2 ≠ 0 then (if a3 ≠ 2 then (if f157 a4 0 9 ≠ 0 then f170 s a3 a2 a4 hc else (-1, hc)) else (if f157 a4 0 1 ≠ 0 then f170 s a3 a2 a4 hc else (-1, hc))) else (-1, hc) := by
        rw [f106_eq, e1]
        show (if f164 s a2 hc = 0 then _ else _) = _
        rw [if_neg (by rw [g1]; exact n10)]
        rfl
      have T := f201_eq a1 a2 a3 a4 hr
      rw [if_neg (by rw [e1']; exact n10), if_neg (by rw [g1']; exact n10)] at T
      by_cases q : 0 ≤ a3.toInt ∧ a3.toInt ≤ 2
      · have y1 : f157 a3 0 2 ≠ 0 := by
          rw [w157_1 rfl k_0 k_2 q]
          exact n10
        have y2 : ¬ f173 a3 0 2 = 0 := by
          rw [w173_1 rfl k_0 k_2 q]
          exact n10
        rw [if_neg y2] at T
        rw [if_pos y1] at K
        rcases (show a3.toInt = 0 ∨ a3.toInt = 1 ∨ a3.toInt = 2 by omega) with z | z | z
        · have e3 : a3 = 0 := i_eq z k_0 rfl
          subst e3
          rw [if_pos (by decide +kernel), w_ws] at K
          rw [if_pos (by decide +kernel)] at T
          by_cases v9 : f173 a4 0 9 ≠ 0
          · rw [if_pos v9] at K T
            rw [if_neg (by decide +kernel), i_cl hp] at T
            rw [K]
            exact rq_put A H lt (by omega) (o := 2) (b1 := 0) (Or.inl ⟨rfl, rfl, rfl⟩) hx hp b2 (fun t => by omega) T
          · rw [if_neg v9] at K T
            exact fin K (T.trans bad)
        · have e3 : a3 = 1 := i_eq z k_1 rfl
          subst e3
          rw [if_pos (by decide +kernel), w_ws] at K
          rw [if_pos (by decide +kernel)] at T
          by_cases v9 : f173 a4 0 9 ≠ 0
          · rw [if_pos v9] at K T
            rw [if_pos (by decide +kernel), if_neg (by decide +kernel), i_cl hp] at T
            rw [K]
            exact rq_put A H lt (by omega) (o := 3) (b1 := 1) (Or.inr (Or.inl ⟨rfl, rfl, rfl⟩)) hx hp b3 (fun t => by omega) T
          · rw [if_neg v9] at K T
            exact fin K (T.trans bad)
        · have e3 : a3 = 2 := i_eq z k_2 rfl
          subst e3
          rw [if_neg (by decide +kernel), w_ws] at K
          rw [if_neg (by decide +kernel)] at T
          by_cases v9 : f173 a4 0 1 ≠ 0
          · have x01 : a4 = 0 ∨ a4 = 1 := by
              by_cases q4 : 0 ≤ a4.toInt ∧ a4.toInt ≤ 1
              · rcases (show a4.toInt = 0 ∨ a4.toInt = 1 by omega) with t | t
                · exact Or.inl (i_eq t k_0 rfl)
                · exact Or.inr (i_eq t k_1 rfl)
              · exact absurd (w173_0 rfl k_0 k_1 q4) v9
            rw [if_pos v9] at K T
            rw [if_pos (by decide +kernel), if_pos (by decide +kernel), i_cl hp] at T
            rw [K]
            rcases hb (6 * s + c) with t | t
            · rw [if_pos t] at T
              exact rq_put A H lt (by omega) (o := 4) (b1 := 2) (w := 0) (Or.inr (Or.inr (Or.inr ⟨rfl, rfl, rfl⟩))) hx hp (b4.trans t) (fun _ => ⟨Or.inl rfl, x01⟩) T
            · rw [if_neg (by rw [t]; exact n10)] at T
              exact rq_put A H lt (by omega) (o := 4) (b1 := 2) (w := 1) (Or.inr (Or.inr (Or.inr ⟨rfl, rfl, rfl⟩))) hx hp (b4.trans t) (fun _ => ⟨Or.inr rfl, x01⟩) T
          · rw [if_neg v9] at K T
            exact fin K (T.trans bad)
      · rw [if_neg (by rw [w157_0 rfl k_0 k_2 q]; exact fun t => t rfl)] at K
        rw [if_pos (w173_0 rfl k_0 k_2 q)] at T
        exact fin K (T.trans bad)
    · refine fin ?_ ?_
      · rw [f106_eq, e1]
        show (if f164 s a2 hc = 0 then _ else _) = _
        rw [if_pos g1]
      · rw [f201_eq, if_neg (by rw [e1']; exact n10), if_pos g1', bad]
  · refine fin ?_ ?_
    · rw [f106_eq, e1]
      rfl
    · rw [f201_eq, if_pos e1', bad]
end RFF
