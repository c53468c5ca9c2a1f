/-! ===== what was done: both histories alike ===== -/
section RDD
variable {h h' g hc hr gc gr : mx_H} {S S' N s i j n m k c D U E : Nat} {a a1 a2 a3 a4 a5 : Int32} {V V' : Nat → Nat → Nat → Int}
/-- entry j is of a corner -/
def rh_c (hc hr : mx_H) (s j : Nat) : Prop := ∃ o c : Nat, c < 6 ∧ rD hc (.inl 87) j = c ∧ rD hr (.inl 124) j = ((6 * s + c : Nat) : Int) ∧ hc.2.1 (.inl 88) j = hr.2.1 (.inl 125) j ∧ hc.2.1 (.inl 89) j = hr.2.1 (.inl 126) j ∧
  ((o = 2 ∧ hc.2.1 (.inl 86) j = 0 ∧ hr.2.1 (.inl 123) j = 0) ∨ (o = 3 ∧ hc.2.1 (.inl 86) j = 1 ∧ hr.2.1 (.inl 123) j = 1) ∨ (o = 1 ∧ hc.2.1 (.inl 86) j = 3 ∧ hr.2.1 (.inl 123) j = 5) ∨
   (o = 4 ∧ hc.2.1 (.inl 86) j = 2 ∧ hr.2.1 (.inl 123) j = 2 ∧ (hc.2.1 (.inl 88) j = 0 ∨ hc.2.1 (.inl 88) j = 1) ∧ (hc.2.1 (.inl 89) j = 0 ∨ hc.2.1 (.inl 89) j = 1)))
/-- entry j is of a piece; V: how stiff all were ahead of each entry -/
def rh_p (hc hr : mx_H) (S : Nat) (V : Nat → Nat → Nat → Int) (s j : Nat) : Prop := ∃ (k u v : Nat) (x y cb ca : Int), hc.2.1 (.inl 86) j = 4 ∧ rD hc (.inl 87) j = k ∧ (k : Int) < rD hc (.inr (s, 0)) 6 ∧ (u < 6 ∧ v < 6 ∧ u ≠ v) ∧ rD hc (.inr (s, 5)) k = ((min u v : Nat) : Int) ∧ rD hc (.inr (s, 6)) k = ((max u v : Nat) : Int) ∧ rD hr (.inl 124) j = ((36 * s + 6 * u + v : Nat) : Int) ∧
  rD hc (.inl 88) j = 10 * x + cb ∧ rD hc (.inl 89) j = 10 * y + ca ∧ (0 ≤ x ∧ x ≤ 9 ∧ 0 ≤ y ∧ y ≤ 9 ∧ 0 ≤ cb ∧ cb ≤ 9 ∧ 0 ≤ ca ∧ ca ≤ 9 ∧ cb ≤ x ∧ ca ≤ y) ∧ V j s k = x ∧ V (j + 1) s k = y ∧ (∀ s' k', s' < S → ¬ (s' = s ∧ k' = k) → V (j + 1) s' k' = V j s' k') ∧
  ((hr.2.1 (.inl 123) j = 3 ∧ rD hr (.inl 125) j = cb ∧ rD hr (.inl 126) j = ca ∧ x = y) ∨ (hr.2.1 (.inl 123) j = 4 ∧ rD hr (.inl 125) j = x ∧ rD hr (.inl 126) j = y ∧ rD hr (.inl 127) j = cb ∧ ca = min cb y))
def rh_e (hc hr : mx_H) (S : Nat) (V : Nat → Nat → Nat → Int) (j : Nat) : Prop := ∃ s, s < S ∧ hc.2.2.2 (.inl 85) j = some (.inr (s, 0)) ∧ ((rh_c hc hr s j ∧ ∀ s' k', s' < S → V (j + 1) s' k' = V j s' k') ∨ rh_p hc hr S V s j)
def rh_H (hc hr : mx_H) (S : Nat) (V : Nat → Nat → Nat → Int) (D U : Nat) : Prop := rD hc (.inl 84) 0 = D ∧ rD hc (.inl 84) 1 = U ∧ rD hr (.inl 105) 24 = D ∧ rD hr (.inl 105) 25 = U ∧ D + U ≤ 40 ∧ (∀ s k, s < S → V D s k = rD hc (.inr (s, 7)) k) ∧ ∀ j, j < D + U → rh_e hc hr S V j
/-- what entries read of shapes is as it was -/
def rh_s (S : Nat) (h g : mx_H) : Prop := ∀ s, s < S → g.2.1 (.inr (s, 0)) 6 = h.2.1 (.inr (s, 0)) 6 ∧ ∀ k, g.2.1 (.inr (s, 5)) k = h.2.1 (.inr (s, 5)) k ∧ g.2.1 (.inr (s, 6)) k = h.2.1 (.inr (s, 6)) k
theorem rh_e.x (p85 : gc.2.2.2 (.inl 85) j = hc.2.2.2 (.inl 85) (j + m)) (p : ∀ q, 86 ≤ q → q ≤ 89 → gc.2.1 (.inl q) j = hc.2.1 (.inl q) (j + m)) (r : ∀ q, 123 ≤ q → q ≤ 127 → gr.2.1 (.inl q) j = hr.2.1 (.inl q) (j + m)) (sc : rh_s S hc gc) (SS : S ≤ S')
    (v0 : ∀ s k, s < S → V' j s k = V (j + m) s k ∧ V' (j + 1) s k = V (j + m + 1) s k) (v1 : ∀ s k, S ≤ s → s < S' → V' (j + 1) s k = V' j s k) (e : rh_e hc hr S V (j + m)) : rh_e gc gr S' V' j := by
  obtain ⟨s, hs, e85, e⟩ := e
  obtain ⟨s6, s56⟩ := sc s hs
  refine ⟨s, by omega, p85.trans e85, ?_⟩
  rcases e with ⟨⟨o, c, q1, q2, q3, q4, q5, q6⟩, q7⟩ | ⟨k, u, v, x, y, cb, ca, q1, q2, q3, q4, q5, q6, q7, q8, q9, q10, q11, q12, q13, q14⟩
  · refine Or.inl ⟨⟨o, c, q1, ?_, ?_, ?_, ?_, ?_⟩, fun s' k' l => ?_⟩
    · unfold rD
      rw [p 87 (by decide) (by decide)]
      exact q2
    · unfold rD
      rw [r 124 (by decide) (by decide)]
      exact q3
    · rw [p 88 (by decide) (by decide), r 125 (by decide) (by decide)]
      exact q4
    · rw [p 89 (by decide) (by decide), r 126 (by decide) (by decide)]
      exact q5
    · rw [p 86 (by decide) (by decide), r 123 (by decide) (by decide), p 88 (by decide) (by decide), p 89 (by decide) (by decide)]
      exact q6
    · by_cases l' : s' < S
      · rw [(v0 s' k' l').1, (v0 s' k' l').2]
        exact q7 s' k' l'
      · exact v1 s' k' (by omega) l
  · refine Or.inr ⟨k, u, v, x, y, cb, ca, ?_, ?_, ?_, q4, ?_, ?_, ?_, ?_, ?_, q10, ?_, ?_, fun s' k' l t => ?_, ?_⟩
    · rw [p 86 (by decide) (by decide)]
      exact q1
    · unfold rD
      rw [p 87 (by decide) (by decide)]
      exact q2
    · unfold rD
      rw [s6]
      exact q3
    · unfold rD
      rw [(s56 k).1]
      exact q5
    · unfold rD
      rw [(s56 k).2]
      exact q6
    · unfold rD
      rw [r 124 (by decide) (by decide)]
      exact q7
    · unfold rD
      rw [p 88 (by decide) (by decide)]
      exact q8
    · unfold rD
      rw [p 89 (by decide) (by decide)]
      exact q9
    · rw [(v0 s k hs).1]
      exact q11
    · rw [(v0 s k hs).2]
      exact q12
    · by_cases l' : s' < S
      · rw [(v0 s' k' l').1, (v0 s' k' l').2]
        exact q13 s' k' l' t
      · exact v1 s' k' (by omega) l
    · unfold rD
      rw [r 123 (by decide) (by decide), r 125 (by decide) (by decide), r 126 (by decide) (by decide), r 127 (by decide) (by decide)]
      exact q14
/-- the histories are as they were; shapes may have come -/
theorem rh_H.new (H : rh_H hc hr S V D U) (SS : S ≤ S') (ec : ∀ s, s < S → rs_ec s hc gc) (p85 : ∀ i, gc.2.2.2 (.inl 85) i = hc.2.2.2 (.inl 85) i) (p : ∀ q i, 84 ≤ q → q ≤ 89 → (q = 84 → i = 0 ∨ i = 1) → q ≠ 85 → gc.2.1 (.inl q) i = hc.2.1 (.inl q) i) (r : ∀ q i, 123 ≤ q → q ≤ 127 → gr.2.1 (.inl q) i = hr.2.1 (.inl q) i)
    (r24 : gr.2.1 (.inl 105) 24 = hr.2.1 (.inl 105) 24) (r25 : gr.2.1 (.inl 105) 25 = hr.2.1 (.inl 105) 25) : ∃ V', rh_H gc gr S' V' D U := by
  obtain ⟨h1, h2, h3, h4, h5, h6, h7⟩ := H
  refine ⟨fun j s k => if s < S then V j s k else rD gc (.inr (s, 7)) k, ?_, ?_, ?_, ?_, h5, fun s k hs => ?_, fun j hj => ?_⟩
  · unfold rD
    rw [p 84 0 (by decide) (by decide) (by omega) (by decide)]
    exact h1
  · unfold rD
    rw [p 84 1 (by decide) (by decide) (by omega) (by decide)]
    exact h2
  · unfold rD
    rw [r24]
    exact h3
  · unfold rD
    rw [r25]
    exact h4
  · show (if s < S then V D s k else rD gc (.inr (s, 7)) k) = _
    by_cases l : s < S
    · rw [if_pos l, h6 s k l]
      unfold rD
      rw [ec s l 7 k (by omega)]
    · rw [if_neg l]
  · exact (rh_e.x (m := 0) (V := V) (p85 j) (fun q l1 l2 => p q j (by omega) l2 (by omega) (by omega)) (fun q l1 l2 => r q j l1 l2) (fun s l => ⟨ec s l 0 6 (by omega), fun k => ⟨ec s l 5 k (by omega), ec s l 6 k (by omega)⟩⟩) SS (fun s k l => ⟨if_pos l, if_pos l⟩) (fun s k l1 l2 => by
      show (if s < S then V (j + 1) s k else rD gc (.inr (s, 7)) k) = if s < S then V j s k else rD gc (.inr (s, 7)) k
      rw [if_neg (by omega), if_neg (by omega)]) (h7 j hj))
/-! an act more, on the class's side -/
def rh_fc (h g : mx_H) : Prop := g.1 = h.1 ∧ (∀ k i, k ≠ 85 → g.2.2.2 (.inl k) i = h.2.2.2 (.inl k) i) ∧ (∀ q i, g.2.1 (.inr q) i = h.2.1 (.inr q) i) ∧ ∀ k i, k < 84 ∨ 89 < k → g.2.1 (.inl k) i = h.2.1 (.inl k) i
def rh_fr (h g : mx_H) : Prop := g.1 = h.1 ∧ g.2.2 = h.2.2 ∧ (∀ q i, g.2.1 (.inr q) i = h.2.1 (.inr q) i) ∧ ∀ k i, ¬ (k = 105 ∧ (i = 24 ∨ i = 25)) → ¬ (123 ≤ k ∧ k ≤ 127) → g.2.1 (.inl k) i = h.2.1 (.inl k) i
theorem rh_fc.u (a : rh_fc h g) : rs_u S h g := ⟨a.1, a.2.1 0 3 (by decide), fun i => a.2.1 3 i (by decide), fun i => a.2.1 92 i (by decide), a.2.2.2 0 2 (by omega), a.2.2.2 90 0 (by omega), fun i => a.2.2.2 91 i (by omega), fun s _ o i _ => a.2.2.1 (s, o) i⟩
theorem rh_fr.v (a : rh_fr h g) : rs_v S h g := ⟨a.2.2.2 105 1 (by omega) (by omega), a.2.2.2 105 12 (by omega) (by omega), fun i => a.2.2.2 116 i (by omega) (by omega), fun i => a.2.2.2 117 i (by omega) (by omega), fun s _ k i w => by
  unfold rs_w at w
  exact a.2.2.2 k i (by omega) (by omega)⟩
def ka_C (h g : mx_H) (s : Nat) (a2 a3 a4 a5 : Int32) (E m : Nat) : Prop := rh_fc h g ∧ rD g (.inl 84) 0 = ((E + 1 : Nat) : Int) ∧ rD g (.inl 84) 1 = 0 ∧ (∀ j, j < E → g.2.2.2 (.inl 85) j = h.2.2.2 (.inl 85) (j + m) ∧ ∀ q, 86 ≤ q → q ≤ 89 → g.2.1 (.inl q) j = h.2.1 (.inl q) (j + m)) ∧
  g.2.2.2 (.inl 85) E = some (.inr (s, 0)) ∧ g.2.1 (.inl 86) E = a2 ∧ g.2.1 (.inl 87) E = a3 ∧ g.2.1 (.inl 88) E = a4 ∧ g.2.1 (.inl 89) E = a5
def k_17 (h : mx_H) (E s : Nat) (a2 a3 a4 a5 : Int32) : mx_H := mx_uI (mx_uI (mx_uI (mx_uI (mx_uI (mx_uI (mx_uR h (.inl 85) E (some (.inr (s, 0)))) (.inl 86) E a2) (.inl 87) E a3) (.inl 88) E a4) (.inl 89) E a5) (.inl 84) 0 (h.2.1 (.inl 84) 0 + 1)) (.inl 84) 1 0
theorem C17a : g17_13 s a2 a3 a4 a5 h = k_17 h (Int32.toNatClampNeg (h.2.1 (.inl 84) 0)) s a2 a3 a4 a5 := by
  rw [g17_13_eq]
  rfl
theorem k_17o {q : Nat} (w : q < 84 ∨ 89 < q) : (k_17 h E s a2 a3 a4 a5).2.1 (.inl q) i = h.2.1 (.inl q) i := by
  unfold k_17
  rw [rN (by omega), rN (by omega), rN (by omega), rN (by omega), rN (by omega), rN (by omega)]
  rfl
theorem k_17q {q : Nat} (ne : i ≠ E) (l1 : 86 ≤ q) (l2 : q ≤ 89) : (k_17 h E s a2 a3 a4 a5).2.1 (.inl q) i = h.2.1 (.inl q) i := by
  unfold k_17
  rw [rN (by omega), rN (by omega), rI_i ne, rI_i ne, rI_i ne, rI_i ne]
  rfl
theorem k_17r {q : Nat} (ne : ¬ (q = 85 ∧ i = E)) : (k_17 h E s a2 a3 a4 a5).2.2.2 (.inl q) i = h.2.2.2 (.inl q) i := by
  show (mx_uR h (.inl 85) E (some (.inr (s, 0)))).2.2.2 (.inl q) i = _
  rw [rR, if_neg (fun z => ne ⟨Sum.inl.inj z.1, z.2⟩)]
theorem ka_C.mk0 (hD : rD h (.inl 84) 0 = E) (E40 : E < 40) : ka_C h (g17_13 s a2 a3 a4 a5 h) s a2 a3 a4 a5 E 0 := by
  rw [C17a, i_cl hD]
  refine ⟨⟨rfl, fun k i q => k_17r (fun t => q t.1), fun _ _ => rfl, fun k i q => k_17o q⟩, ?_, rfl, fun j hj => ⟨k_17r (by omega), fun q l1 l2 => k_17q (by omega) l1 l2⟩, ?_, ?_, ?_, ?_, ?_⟩
  · show (h.2.1 (.inl 84) 0 + 1).toInt = _
    exact (i_add hD k_1 (by omega) (by omega)).trans (by omega)
  · show (mx_uR h (.inl 85) E (some (.inr (s, 0)))).2.2.2 (.inl 85) E = _
    rw [rR, if_pos ⟨rfl, rfl⟩]
  · show (mx_uI (mx_uR h (.inl 85) E (some (.inr (s, 0)))) (.inl 86) E a2).2.1 (.inl 86) E = _
    exact rI_s
  · show (mx_uI (mx_uI (mx_uR h (.inl 85) E (some (.inr (s, 0)))) (.inl 86) E a2) (.inl 87) E a3).2.1 (.inl 87) E = _
    exact rI_s
  · show (mx_uI (mx_uI (mx_uI (mx_uR h (.inl 85) E (some (.inr (s, 0)))) (.inl 86) E a2) (.inl 87) E a3) (.inl 88) E a4).2.1 (.inl 88) E = _
    exact rI_s
  · show (mx_uI (mx_uI (mx_uI (mx_uI (mx_uR h (.inl 85) E (some (.inr (s, 0)))) (.inl 86) E a2) (.inl 87) E a3) (.inl 88) E a4) (.inl 89) E a5).2.1 (.inl 89) E = _
    exact rI_s
/-- the oldest goes -/
def k_18 (g : mx_H) (k t : Nat) : mx_H := mx_uI (mx_uI (mx_uI (mx_uI (mx_uR g (.inl 85) (k - 1) (some (.inr (t, 0)))) (.inl 86) (k - 1) (g.2.1 (.inl 86) k)) (.inl 87) (k - 1) (g.2.1 (.inl 87) k)) (.inl 88) (k - 1) (g.2.1 (.inl 88) k)) (.inl 89) (k - 1) (g.2.1 (.inl 89) k)
theorem k_18o {q t : Nat} (w : q < 86 ∨ 89 < q) : (k_18 g k t).2.1 (.inl q) i = g.2.1 (.inl q) i := by
  unfold k_18
  rw [rN (by omega), rN (by omega), rN (by omega), rN (by omega)]
  rfl
theorem k_18q {q t : Nat} (l1 : 86 ≤ q) (l2 : q ≤ 89) : (k_18 g k t).2.1 (.inl q) i = if i = k - 1 then g.2.1 (.inl q) k else g.2.1 (.inl q) i := by
  unfold k_18
  by_cases e : i = k - 1
  · rw [if_pos e]
    rcases (show q = 86 ∨ q = 87 ∨ q = 88 ∨ q = 89 by omega) with w | w | w | w
    · subst w
      rw [rN (by decide), rN (by decide), rN (by decide), rI_c rfl e]
    · subst w
      rw [rN (by decide), rN (by decide), rI_c rfl e]
    · subst w
      rw [rN (by decide), rI_c rfl e]
    · subst w
      rw [rI_c rfl e]
  · rw [if_neg e, rI_i e, rI_i e, rI_i e, rI_i e]
    rfl
theorem k_18r {q t : Nat} : (k_18 g k t).2.2.2 (.inl q) i = if q = 85 ∧ i = k - 1 then some (.inr (t, 0)) else g.2.2.2 (.inl q) i := by
  show (mx_uR g (.inl 85) (k - 1) (some (.inr (t, 0)))).2.2.2 (.inl q) i = _
  rw [rR]
  by_cases e : q = 85 ∧ i = k - 1
  · rw [if_pos e, if_pos ⟨by rw [e.1], e.2⟩]
  · rw [if_neg e, if_neg (fun z => e ⟨Sum.inl.inj z.1, z.2⟩)]
theorem C18s {t : Nat} (ha : a1.toInt = (k : Int)) (k1 : 1 ≤ k) (k40 : k < 40) (e : g.2.2.2 (.inl 85) k = some (.inr (t, 0))) : g18_2 a1 g = g18_2 (a1 + 1) (k_18 g k t) := by
  have hb : (a1 - 1).toInt = ((k - 1 : Nat) : Int) := (i_sub ha k_1 (by omega) (by omega)).trans (by omega)
  rw [g18_2_eq, if_neg (i_nle (show (40 : Int32).toInt = 40 from rfl) ha (by omega)), i_cl ha, i_cl hb, x_opt_s e]
  rfl
def k_18I (h g : mx_H) (k : Nat) : Prop := rh_fc h g ∧ (∀ i, g.2.1 (.inl 84) i = h.2.1 (.inl 84) i) ∧ (∀ j, j + 1 < k → g.2.2.2 (.inl 85) j = h.2.2.2 (.inl 85) (j + 1) ∧ ∀ q, 86 ≤ q → q ≤ 89 → g.2.1 (.inl q) j = h.2.1 (.inl q) (j + 1)) ∧ ∀ j, k ≤ j + 1 → g.2.2.2 (.inl 85) j = h.2.2.2 (.inl 85) j ∧ ∀ q, 86 ≤ q → q ≤ 89 → g.2.1 (.inl q) j = h.2.1 (.inl q) j
theorem C18g (R : ∀ j, j < 40 → ∃ t, h.2.2.2 (.inl 85) j = some (.inr (t, 0))) : ∀ (n k : Nat) (a1 : Int32) {g : mx_H}, k + n = 40 → 1 ≤ k → a1.toInt = (k : Int) → k_18I h g k → ∃ g', g18_2 a1 g = mx_uI g' (.inl 84) 0 39 ∧ k_18I h g' 40
  | 0, k, a1, g, e, k1, ha, I => ⟨g, by rw [g18_2_eq, if_pos (i_le (show (40 : Int32).toInt = 40 from rfl) ha (by omega))], (show k = 40 by omega) ▸ I⟩
  | n + 1, k, a1, g, e, k1, ha, I => by
    obtain ⟨i1, i2, i3, i4⟩ := I
    obtain ⟨t, ht⟩ := R k (by omega)
    have hk := i4 k (by omega)
    rw [C18s ha k1 (by omega) (hk.1.trans ht)]
    refine C18g R n (k + 1) (a1 + 1) (by omega) (by omega) ((i_add ha k_1 (by omega) (by omega)).trans (by omega)) ⟨⟨i1.1, fun q i w => ?_, fun q i => i1.2.2.1 q i, fun q i w => ?_⟩, fun i => ?_, fun j hj => ⟨?_, fun q l1 l2 => ?_⟩, fun j hj => ⟨?_, fun q l1 l2 => ?_⟩⟩
    · rw [k_18r, if_neg (fun z => w z.1)]
      exact i1.2.1 q i w
    · rw [k_18o (by omega)]
      exact i1.2.2.2 q i w
    · rw [k_18o (by omega)]
      exact i2 i
    · rw [k_18r]
      by_cases w : j = k - 1
      · rw [if_pos ⟨rfl, w⟩, show j + 1 = k by omega, ht]
      · rw [if_neg (fun z => w z.2)]
        exact (i3 j (by omega)).1
    · rw [k_18q l1 l2]
      by_cases w : j = k - 1
      · rw [if_pos w, show j + 1 = k by omega]
        exact hk.2 q l1 l2
      · rw [if_neg w]
        exact (i3 j (by omega)).2 q l1 l2
    · rw [k_18r, if_neg (by omega)]
      exact (i4 j (by omega)).1
    · rw [k_18q l1 l2, if_neg (by omega)]
      exact (i4 j (by omega)).2 q l1 l2
theorem C17 (hD : rD h (.inl 84) 0 = D) (D40 : D ≤ 40) (R : ∀ j, j < D → ∃ t, h.2.2.2 (.inl 85) j = some (.inr (t, 0))) : (D < 40 ∧ ka_C h (f17 s a2 a3 a4 a5 h) s a2 a3 a4 a5 D 0) ∨ (D = 40 ∧ ka_C h (f17 s a2 a3 a4 a5 h) s a2 a3 a4 a5 39 1) := by
  rw [f17_eq]
  by_cases c : D < 40
  · rw [if_pos (i_lt hD (show (40 : Int32).toInt = 40 from rfl) (by omega))]
    exact Or.inl ⟨c, ka_C.mk0 hD c⟩
  · rw [if_neg (i_nlt hD (show (40 : Int32).toInt = 40 from rfl) (by omega))]
    refine Or.inr ⟨by omega, ?_⟩
    obtain ⟨g, e, ⟨i1, i2, i3, i4⟩⟩ := C18g (h := h) (fun j hj => R j (by omega)) 39 1 1 (g := h) (by omega) (by omega) rfl ⟨⟨rfl, fun _ _ _ => rfl, fun _ _ => rfl, fun _ _ _ => rfl⟩, fun _ => rfl, fun j hj => by omega, fun j _ => ⟨rfl, fun _ _ _ => rfl⟩⟩
    show ka_C h (g17_13 s a2 a3 a4 a5 (f18 h)) s a2 a3 a4 a5 39 1
    rw [f18_eq, e]
    obtain ⟨k1, k2, k3, k4, k5, k6, k7, k8, k9⟩ := ka_C.mk0 (h := mx_uI g (.inl 84) 0 39) (s := s) (a2 := a2) (a3 := a3) (a4 := a4) (a5 := a5) (E := 39) rfl (by omega)
    refine ⟨⟨k1.1.trans i1.1, fun q i w => (k1.2.1 q i w).trans (i1.2.1 q i w), fun q i => (k1.2.2.1 q i).trans (i1.2.2.1 q i), fun q i w => (k1.2.2.2 q i w).trans ?_⟩, k2, k3, fun j hj => ⟨(k4 j hj).1.trans (i3 j (by omega)).1, fun q l1 l2 => ((k4 j hj).2 q l1 l2).trans ?_⟩, k5, k6, k7, k8, k9⟩
    · rw [rN (by omega)]
      exact i1.2.2.2 q i w
    · rw [rN (by omega)]
      exact (i3 j (by omega)).2 q l1 l2
/-! an act more, on the reference's side -/
def ka_R (h g : mx_H) (a1 a2 a3 a4 a5 : Int32) (E m : Nat) : Prop := rh_fr h g ∧ rD g (.inl 105) 24 = ((E + 1 : Nat) : Int) ∧ rD g (.inl 105) 25 = 0 ∧ (∀ j, j < E → ∀ q, 123 ≤ q → q ≤ 127 → g.2.1 (.inl q) j = h.2.1 (.inl q) (j + m)) ∧ g.2.1 (.inl 123) E = a1 ∧ g.2.1 (.inl 124) E = a2 ∧ g.2.1 (.inl 125) E = a3 ∧ g.2.1 (.inl 126) E = a4 ∧ g.2.1 (.inl 127) E = a5
def r_19 (h : mx_H) (E : Nat) (a1 a2 a3 a4 a5 : Int32) : mx_H := mx_uI (mx_uI (mx_uI (mx_uI (mx_uI (mx_uI h (.inl 123) E a1) (.inl 124) E a2) (.inl 125) E a3) (.inl 126) E a4) (.inl 127) E a5) (.inl 105) 24 (h.2.1 (.inl 105) 24 + 1)
theorem R198a : g198_120 a1 a2 a3 a4 a5 h = r_19 h (Int32.toNatClampNeg (h.2.1 (.inl 105) 24)) a1 a2 a3 a4 a5 := by
  rw [g198_120_eq]
  rfl
theorem r_19o {q : Nat} (w1 : ¬ (q = 105 ∧ i = 24)) (w2 : ¬ (123 ≤ q ∧ q ≤ 127)) : (r_19 h E a1 a2 a3 a4 a5).2.1 (.inl q) i = h.2.1 (.inl q) i := by
  unfold r_19
  rw [show ∀ (H : mx_H) (v : Int32), (mx_uI H (.inl 105) 24 v).2.1 (.inl q) i = H.2.1 (.inl q) i from fun H v => if_neg (fun z => w1 ⟨Sum.inl.inj z.1, z.2⟩), rN (by omega), rN (by omega), rN (by omega), rN (by omega), rN (by omega)]
theorem r_19q {q : Nat} (ne : i ≠ E) (l1 : 123 ≤ q) (l2 : q ≤ 127) : (r_19 h E a1 a2 a3 a4 a5).2.1 (.inl q) i = h.2.1 (.inl q) i := by
  unfold r_19
  rw [rN (by omega), rI_i ne, rI_i ne, rI_i ne, rI_i ne, rI_i ne]
theorem ka_R.mk0 (hD : rD h (.inl 105) 24 = E) (hU : rD h (.inl 105) 25 = 0) (E40 : E < 40) : ka_R h (g198_120 a1 a2 a3 a4 a5 h) a1 a2 a3 a4 a5 E 0 := by
  rw [R198a, i_cl hD]
  refine ⟨⟨rfl, rfl, fun _ _ => rfl, fun k i q w => r_19o (fun t => q ⟨t.1, Or.inl t.2⟩) w⟩, ?_, ?_, fun j hj q l1 l2 => r_19q (by omega) l1 l2, ?_, ?_, ?_, ?_, ?_⟩
  · show (h.2.1 (.inl 105) 24 + 1).toInt = _
    exact (i_add hD k_1 (by omega) (by omega)).trans (by omega)
  · unfold rD
    rw [r_19o (by omega) (by omega)]
    exact hU
  · show (mx_uI h (.inl 123) E a1).2.1 (.inl 123) E = _
    exact rI_s
  · show (mx_uI (mx_uI h (.inl 123) E a1) (.inl 124) E a2).2.1 (.inl 124) E = _
    exact rI_s
  · show (mx_uI (mx_uI (mx_uI h (.inl 123) E a1) (.inl 124) E a2) (.inl 125) E a3).2.1 (.inl 125) E = _
    exact rI_s
  · show (mx_uI (mx_uI (mx_uI (mx_uI h (.inl 123) E a1) (.inl 124) E a2) (.inl 125) E a3) (.inl 126) E a4).2.1 (.inl 126) E = _
    exact rI_s
  · show (mx_uI (mx_uI (mx_uI (mx_uI (mx_uI h (.inl 123) E a1) (.inl 124) E a2) (.inl 125) E a3) (.inl 126) E a4) (.inl 127) E a5).2.1 (.inl 127) E = _
    exact rI_s
def r_17 (g : mx_H) (k : Nat) : mx_H := mx_uI (mx_uI (mx_uI (mx_uI (mx_uI g (.inl 123) (k - 1) (g.2.1 (.inl 123) k)) (.inl 124) (k - 1) (g.2.1 (.inl 124) k)) (.inl 125) (k - 1) (g.2.1 (.inl 125) k)) (.inl 126) (k - 1) (g.2.1 (.inl 126) k)) (.inl 127) (k - 1) (g.2.1 (.inl 127) k)
theorem r_17o {q : Nat} (w : q < 123 ∨ 127 < q) : (r_17 g k).2.1 (.inl q) i = g.2.1 (.inl q) i := by
  unfold r_17
  rw [rN (by omega), rN (by omega), rN (by omega), rN (by omega), rN (by omega)]
theorem r_17q {q : Nat} (l1 : 123 ≤ q) (l2 : q ≤ 127) : (r_17 g k).2.1 (.inl q) i = if i = k - 1 then g.2.1 (.inl q) k else g.2.1 (.inl q) i := by
  unfold r_17
  by_cases e : i = k - 1
  · rw [if_pos e]
    rcases (show q = 123 ∨ q = 124 ∨ q = 125 ∨ q = 126 ∨ q = 127 by omega) with w | w | w | w | w
    · subst w
      rw [rN (by decide), rN (by decide), rN (by decide), rN (by decide), rI_c rfl e]
    · subst w
      rw [rN (by decide), rN (by decide), rN (by decide), rI_c rfl e]
    · subst w
      rw [rN (by decide), rN (by decide), rI_c rfl e]
    · subst w
      rw [rN (by decide), rI_c rfl e]
    · subst w
      rw [rI_c rfl e]
  · rw [if_neg e, rI_i e, rI_i e, rI_i e, rI_i e, rI_i e]
theorem R17s {a6 : Int32} (ha : a6.toInt = (k : Int)) (k1 : 1 ≤ k) (k40 : k < 40) : g198_17 a1 a2 a3 a4 a5 a6 g = g198_17 a1 a2 a3 a4 a5 (a6 + 1) (r_17 g k) := by
  have hb : (a6 - 1).toInt = ((k - 1 : Nat) : Int) := (i_sub ha k_1 (by omega) (by omega)).trans (by omega)
  rw [g198_17_eq, if_neg (i_nle (show (40 : Int32).toInt = 40 from rfl) ha (by omega)), i_cl ha, i_cl hb]
  rfl
def r_17I (h g : mx_H) (k : Nat) : Prop := rh_fr h g ∧ (∀ i, g.2.1 (.inl 105) i = h.2.1 (.inl 105) i) ∧ (∀ j, j + 1 < k → ∀ q, 123 ≤ q → q ≤ 127 → g.2.1 (.inl q) j = h.2.1 (.inl q) (j + 1)) ∧ ∀ j, k ≤ j + 1 → ∀ q, 123 ≤ q → q ≤ 127 → g.2.1 (.inl q) j = h.2.1 (.inl q) j
theorem R17g : ∀ (n k : Nat) (a6 : Int32) {g : mx_H}, k + n = 40 → 1 ≤ k → a6.toInt = (k : Int) → r_17I h g k → ∃ g', g198_17 a1 a2 a3 a4 a5 a6 g = g198_120 a1 a2 a3 a4 a5 (mx_uI g' (.inl 105) 24 (g'.2.1 (.inl 105) 24 - 1)) ∧ r_17I h g' 40
  | 0, k, a6, g, e, k1, ha, I => ⟨g, by rw [g198_17_eq, if_pos (i_le (show (40 : Int32).toInt = 40 from rfl) ha (by omega))], (show k = 40 by omega) ▸ I⟩
  | n + 1, k, a6, g, e, k1, ha, I => by
    obtain ⟨i1, i2, i3, i4⟩ := I
    have hk := i4 k (by omega)
    rw [R17s ha k1 (by omega)]
    refine R17g n (k + 1) (a6 + 1) (by omega) (by omega) ((i_add ha k_1 (by omega) (by omega)).trans (by omega)) ⟨⟨i1.1, i1.2.1, fun q i => i1.2.2.1 q i, fun q i w1 w2 => ?_⟩, fun i => ?_, fun j hj q l1 l2 => ?_, fun j hj q l1 l2 => ?_⟩
    · rw [r_17o (by omega)]
      exact i1.2.2.2 q i w1 w2
    · rw [r_17o (by omega)]
      exact i2 i
    · rw [r_17q l1 l2]
      by_cases w : j = k - 1
      · rw [if_pos w, show j + 1 = k by omega]
        exact hk q l1 l2
      · rw [if_neg w]
        exact i3 j (by omega) q l1 l2
    · rw [r_17q l1 l2, if_neg (by omega)]
      exact i4 j (by omega) q l1 l2
theorem R198 (hD : rD h (.inl 105) 24 = D) (D40 : D ≤ 40) : (D < 40 ∧ ka_R h (f198 a1 a2 a3 a4 a5 h) a1 a2 a3 a4 a5 D 0) ∨ (D = 40 ∧ ka_R h (f198 a1 a2 a3 a4 a5 h) a1 a2 a3 a4 a5 39 1) := by
  rw [f198_eq]
  have hD' : rD (mx_uI h (.inl 105) 25 0) (.inl 105) 24 = D := hD
  have fo : ∀ q i, ¬ (q = 105 ∧ i = 25) → (mx_uI h (.inl 105) 25 0).2.1 (.inl q) i = h.2.1 (.inl q) i := fun q i w => if_neg (fun z => w ⟨Sum.inl.inj z.1, z.2⟩)
  by_cases c : D < 40
  · rw [if_pos (show _ ≠ _ from i_ne hD' (show (40 : Int32).toInt = 40 from rfl) (by omega))]
    refine Or.inl ⟨c, ?_⟩
    obtain ⟨k1, k2, k3, k4, k5⟩ := ka_R.mk0 (h := mx_uI h (.inl 105) 25 0) (a1 := a1) (a2 := a2) (a3 := a3) (a4 := a4) (a5 := a5) (E := D) hD' rfl c
    exact ⟨⟨k1.1, k1.2.1, k1.2.2.1, fun q i w1 w2 => (k1.2.2.2 q i w1 w2).trans (fo q i (fun t => w1 ⟨t.1, Or.inr t.2⟩))⟩, k2, k3, fun j hj q l1 l2 => (k4 j hj q l1 l2).trans (fo q _ (by omega)), k5⟩
  · rw [if_neg (fun t => t (i_eq hD' (show (40 : Int32).toInt = 40 from rfl) (by omega)))]
    refine Or.inr ⟨by omega, ?_⟩
    obtain ⟨g, e, ⟨i1, i2, i3, i4⟩⟩ := R17g (a1 := a1) (a2 := a2) (a3 := a3) (a4 := a4) (a5 := a5) (h := mx_uI h (.inl 105) 25 0) 39 1 1 (g := mx_uI h (.inl 105) 25 0) (by omega) (by omega) rfl ⟨⟨rfl, rfl, fun _ _ => rfl, fun _ _ _ _ => rfl⟩, fun _ => rfl, fun j hj => by omega, fun j _ _ _ _ => rfl⟩
    rw [e]
    have g24 : rD g (.inl 105) 24 = 40 := by
      unfold rD
      rw [i2 24]
      exact (show (h.2.1 (.inl 105) 24).toInt = _ from hD).trans (by omega)
    have hE : rD (mx_uI g (.inl 105) 24 (g.2.1 (.inl 105) 24 - 1)) (.inl 105) 24 = ((39 : Nat) : Int) := by
      unfold rD
      rw [rI_s]
      exact i_sub g24 k_1 (by omega) (by omega)
    have hU : rD (mx_uI g (.inl 105) 24 (g.2.1 (.inl 105) 24 - 1)) (.inl 105) 25 = 0 := by
      unfold rD
      rw [rI_i (by decide), i2 25]
      rfl
    obtain ⟨k1, k2, k3, k4, k5⟩ := ka_R.mk0 (a1 := a1) (a2 := a2) (a3 := a3) (a4 := a4) (a5 := a5) hE hU (by omega)
    refine ⟨⟨k1.1.trans i1.1, k1.2.1.trans i1.2.1, fun q i => (k1.2.2.1 q i).trans (i1.2.2.1 q i), fun q i w1 w2 => (k1.2.2.2 q i w1 w2).trans ?_⟩, k2, k3, fun j hj q l1 l2 => (k4 j hj q l1 l2).trans ?_, k5⟩
    · rw [show (mx_uI g (.inl 105) 24 (g.2.1 (.inl 105) 24 - 1)).2.1 (.inl q) i = g.2.1 (.inl q) i from if_neg (fun z => w1 ⟨Sum.inl.inj z.1, Or.inl z.2⟩), i1.2.2.2 q i w1 w2]
      exact fo q i (fun t => w1 ⟨t.1, Or.inr t.2⟩)
    · rw [rN (by omega), Nat.add_zero, i3 j (by omega) q l1 l2]
      exact fo q _ (by omega)
end RDD
