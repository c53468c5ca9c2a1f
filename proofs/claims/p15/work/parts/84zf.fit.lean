/-! ===== 84yf: CRACKS that FIT: all tries ===== -/
section MYF
variable {h g hc hr k gc gr hc1 hr1 : mx_H} {S N C n F s c b m i t u v u' v' T M P b0 : Nat} {a1 a2 a3 a4 a5 a6 x y : Int32} {q : Int}
/-- how many fit so far, and the first -/
def ft_R (F n T : Nat) (g gr : mx_H) : Prop := ∃ w : Nat, w ≤ T ∧ g.2.1 (.inl 68) 2 = nI w ∧ gr.2.1 (.inl 105) 67 = nI w ∧ (w ≠ 0 → g.2.1 (.inl 68) 4 = gr.2.1 (.inl 105) 69 ∧ ((g.2.1 (.inl 68) 3 = -1 ∧ gr.2.1 (.inl 105) 68 = -1) ∨ ∃ k, k < n ∧ g.2.1 (.inl 68) 3 = nI k ∧ gr.2.1 (.inl 105) 68 = nI (F + k)))
def ft_P (F n : Nat) (x y : Int32) : Prop := (x = -1 ∧ y = -1) ∨ ∃ k, k < n ∧ x = nI k ∧ y = nI (F + k)
theorem ft_R0 (e1 : g.2.1 (.inl 68) 2 = 0) (e2 : gr.2.1 (.inl 105) 67 = 0) : ft_R F n 0 g gr := ⟨0, Nat.le_refl _, e1, e2, fun w => absurd rfl w⟩
theorem ft_up {T' : Nat} (R : ft_R F n T g gr) (l : T ≤ T') : ft_R F n T' g gr := by
  obtain ⟨w, w1, w2⟩ := R
  exact ⟨w, by omega, w2⟩
theorem ft_eq {g' gr' : mx_H} (R : ft_R F n T g gr) (e1 : ∀ i, g'.2.1 (.inl 68) i = g.2.1 (.inl 68) i) (e2 : ∀ i, i = 67 ∨ i = 68 ∨ i = 69 → gr'.2.1 (.inl 105) i = gr.2.1 (.inl 105) i) : ft_R F n T g' gr' := by
  obtain ⟨w, w1, w2, w3, w4⟩ := R
  refine ⟨w, w1, (e1 2).trans w2, (e2 67 (Or.inl rfl)).trans w3, fun z => ?_⟩
  rw [e1 4, e1 3, e2 68 (Or.inr (Or.inl rfl)), e2 69 (Or.inr (Or.inr rfl))]
  exact w4 z
theorem ft_more {g' gr' : mx_H} (R : ft_R F n T g gr) (T2 : T < 1000) (p : ft_P F n a3 a4) (A : ft_1 g g' a3 a5) (B : ft_2 gr gr' a4 a5) : ft_R F n (T + 1) g' gr' := by
  obtain ⟨w, w1, w2, w3, w4⟩ := R
  obtain ⟨x1, x2, x3⟩ := A
  obtain ⟨y1, y2, y3⟩ := B
  rw [w2] at x1 x2 x3
  rw [w3] at y1 y2 y3
  rw [nI_s] at x1 y1 y2 y3
  refine ⟨w + 1, by omega, x1, y1, fun _ => ?_⟩
  by_cases z : w = 0
  · subst z
    obtain ⟨x4, x5⟩ := x2 rfl
    obtain ⟨y4, y5⟩ := y2 rfl
    rw [x4, x5, y4, y5]
    exact ⟨rfl, p⟩
  · have z1 : ¬ nI w = 0 := i_ne (nI_toInt (n := w) (by omega)) k_0 (by omega)
    have z2 : ¬ nI (w + 1) = 1 := i_ne (nI_toInt (n := w + 1) (by omega)) k_1 (by omega)
    obtain ⟨x4, x5⟩ := x3 z1
    obtain ⟨y4, y5⟩ := y3 z2
    rw [x4, x5, y4, y5]
    exact w4 z
/-- the reference's frame, links too -/
def fx_F (h g : mx_H) : Prop := (∀ x i, ¬ (128 ≤ x ∧ x ≤ 137) → x ≠ 148 → x ≠ 105 → g.2.1 (.inl x) i = h.2.1 (.inl x) i) ∧ ∀ i, i ≠ 35 → i ≠ 37 → i ≠ 42 → i ≠ 67 → i ≠ 68 → i ≠ 69 → g.2.1 (.inl 105) i = h.2.1 (.inl 105) i
theorem fx_F.refl : fx_F h h := ⟨fun _ _ _ _ _ => rfl, fun _ _ _ _ _ _ _ => rfl⟩
theorem fx_F.fr (A : fx_F h g) (B : fr_F g k) : fx_F h k := ⟨fun x i h1 h2 h3 => (B.1 x i (by omega) (by omega) (by omega) h2 h3).trans (A.1 x i h1 h2 h3), fun i h0 h1 h2 h3 h4 h5 => (B.2 i h1 h2 h3 h4 h5).trans (A.2 i h0 h1 h2 h3 h4 h5)⟩
theorem fx_F.fu {j : Nat} (A : fx_F h g) : fx_F h (mx_uI g (.inl 131) j x) := ⟨fun y i h1 h2 h3 => (rI_a (ne_l (by omega))).trans (A.1 y i h1 h2 h3), fun i h0 h1 h2 h3 h4 h5 => (rI_a (ne_l (by decide))).trans (A.2 i h0 h1 h2 h3 h4 h5)⟩
/-- what the tries keep -/
def wi (hc1 hr1 g gr : mx_H) (C F n b T : Nat) : Prop := nt_N g gr 0 C ∧ nt_V gr C ∧ mi_S gr (b + 84 * T) ∧ fc_F hc1 g ∧ fx_F hr1 gr ∧ ft_R F n T g gr
/-- what is told -/
def wt (hc1 hr1 : mx_H) (a1 : Int32) (m t : Nat) : Prop := m ≤ 6 ∧ t ≤ m ∧ rD hc1 (.inl 68) 0 = t ∧ rD hr1 (.inl 105) 65 = t ∧ (∀ i, i < t → hc1.2.1 (.inl 69) i = hr1.2.1 (.inl 147) i) ∧ ∀ g, fx_F hr1 g → f195 a1 g = nI m
theorem wi_try (W : wi hc1 hr1 g gr C F n b T) (D : wt hc1 hr1 a1 m t) (hb : b + 84 * T + 400 < 2147483647) (T2 : T < 1000) (h2 : a2.toInt = q) (q1 : 1 ≤ q) (q9 : q ≤ 9) (p : ft_P F n a3 a4) : wi hc1 hr1 (f14 0 a2 (nI m) a3 a5 g) (f250 a1 a2 a4 a5 gr) C F n b (T + 1) := by
  obtain ⟨W1, W2, W3, W4, W5, W6⟩ := W
  obtain ⟨m6, tm, t1, t2, t3, f95⟩ := D
  have e68 : rD g (.inl 68) 0 = t := (congrArg Int32.toInt W4.2.2).trans t1
  have e65 : rD gr (.inl 105) 65 = t := (congrArg Int32.toInt (W5.2 65 (by decide) (by decide) (by decide) (by decide) (by decide) (by decide))).trans t2
  have eh : ∀ i, i < t → g.2.1 (.inl 69) i = gr.2.1 (.inl 147) i := fun i hi => by
    rw [W4.2.1 69 i (by decide) (by decide), W5.1 147 i (by omega) (by decide) (by decide)]
    exact t3 i hi
  obtain ⟨x1, x2, x3⟩ := T14 (a4 := a3) (a5 := a5) W2 h2 q1 q9 m6 tm e68 W1
  obtain ⟨y1, y2, y3⟩ := T250 (a1 := a1) (a3 := a4) (a4 := a5) (m := m) (t := t) W1.2.2.1 W1.1 W2 W3 hb h2 q1 q9 m6 tm e65 (fun g' w => f95 g' (W5.fr w))
  have ff : ft_f gr C q (g.2.1 (.inl 69)) t ↔ ft_f gr C q (gr.2.1 (.inl 147)) t := ⟨fun f i hi => (f i hi).trans (eh i hi), fun f i hi => (f i hi).trans (eh i hi).symm⟩
  refine ⟨nt_fr x2 y1, nt_QV (fr_Q y1) W2, y2.up (by omega), W4.trans x1, W5.fr y1, ?_⟩
  rcases x3 with ⟨x4, x5⟩ | ⟨x4, x5⟩
  · rcases y3 with ⟨y4, y5⟩ | ⟨y4, y5⟩
    · exact ft_more W6 T2 p x5 y5
    · exact absurd (ff.mp x4) y4
  · rcases y3 with ⟨y4, y5⟩ | ⟨y4, y5⟩
    · exact absurd (ff.mpr y4) x4
    · exact ft_up (ft_eq W6 x5 y5) (by omega)
theorem wi_link (W : wi hc1 hr1 g gr C F n b T) (x0 : 0 ≤ x.toInt) (x9 : x.toInt ≤ 9) (hu : u < C) (hv : v < C) (w : (u' = u ∧ v' = v) ∨ (u' = v ∧ v' = u)) : wi hc1 hr1 (mx_uI (mx_uI g (.inr (0, 34)) (6 * u' + v') x) (.inr (0, 34)) (6 * v' + u') x) (mx_uI (mx_uI gr (.inl 131) (6 * u + v) x) (.inl 131) (6 * v + u) x) C F n b T := by
  obtain ⟨W1, W2, W3, W4, W5, W6⟩ := W
  obtain ⟨z1, z2⟩ := nt_lk W1 W2 x0 x9 hu hv w
  have cx : ∀ y i, (mx_uI (mx_uI g (.inr (0, 34)) (6 * u' + v') x) (.inr (0, 34)) (6 * v' + u') x).2.1 (.inl y) i = g.2.1 (.inl y) i := fun y i => (rI_a (fun e => by cases e)).trans (rI_a (fun e => by cases e))
  have kx : ∀ y i, y ≠ 131 → (mx_uI (mx_uI gr (.inl 131) (6 * u + v) x) (.inl 131) (6 * v + u) x).2.1 (.inl y) i = gr.2.1 (.inl y) i := fun y i hy => (rI_a (ne_l hy)).trans (rI_a (ne_l hy))
  refine ⟨z1, z2, mi_Sf (fun i => kx 136 i (by decide)) (kx 105 42 (by decide)) W3, W4.trans ⟨⟨fun s o i ho => (rI_a (fun e => by
    cases e
    omega)).trans (rI_a (fun e => by
    cases e
    omega)), rfl⟩, fun y i _ _ => cx y i, cx 68 0⟩, W5.fu.fu, ft_eq W6 (fun i => cx 68 i) (fun i _ => kx 105 i (by decide))⟩
/-- all cracks of a piece -/
theorem W102 (D : wt hc1 hr1 a1 m t) (Q : rs_k hc1 hr1 s C F P u v) (C6 : C ≤ 6) (s12 : s ≤ 12) (Pn : P < n) (F2 : F + n ≤ 200) {st : Nat} (hst : rD hc1 (.inr (s, 7)) P = st) (st9 : st ≤ 9) (h4 : a4.toInt = ((36 * s + 6 * u + v : Nat) : Int)) (h2 : a2.toInt = q) (q1 : 1 ≤ q) (q9 : q ≤ 9) (hb : b + 100000 < 2147483647) : ∀ (j c T : Nat) {g gr : mx_H}, c + j = st + 1 → 1 ≤ c → T + j ≤ 300 → wi hc1 hr1 g gr C F n b T → ∃ g' gr', g13_102 s 0 a2 (nI m) (nI P) (nI c) g = g13_90 s 0 a2 (nI m) (nI (P + 1)) g' ∧ g251_153 a1 a2 (nI (F + P)) a4 (nI c) gr = g251_115 a1 a2 (nI (F + P + 1)) gr' ∧ wi hc1 hr1 g' gr' C F n b (T + j) := by
  obtain ⟨o1, o2, o3, o4, o5, o6, o7, o8, o9, o10, o11, o12, o13⟩ := Q
  have z1 := w6 o4 o5 (show min u v ≤ 12 by omega) (show max u v < 6 by omega)
  have z2 := w6 o5 o4 (show max u v ≤ 12 by omega) (show min u v < 6 by omega)
  obtain ⟨d1, d2, d3⟩ := R_dec h4 (by omega) (by omega) s12
  have z3 := w6 d2 d3 (show u ≤ 12 by omega) (show v < 6 by omega)
  have z4 := w6 d3 d2 (show v ≤ 12 by omega) (show u < 6 by omega)
  have hs7 : ∀ g : mx_H, fc_F hc1 g → g.2.1 (.inr (s, 7)) P = hc1.2.1 (.inr (s, 7)) P ∧ g.2.1 (.inr (s, 5)) P = hc1.2.1 (.inr (s, 5)) P ∧ g.2.1 (.inr (s, 6)) P = hc1.2.1 (.inr (s, 6)) P := fun g w => ⟨w.1.1 s 7 P (by decide), w.1.1 s 5 P (by decide), w.1.1 s 6 P (by decide)⟩
  have hr7 : ∀ gr : mx_H, fx_F hr1 gr → gr.2.1 (.inl 111) (36 * s + 6 * u + v) = hc1.2.1 (.inr (s, 7)) P := fun gr w => (w.1 111 _ (by omega) (by decide) (by decide)).trans o8
  have hst' : (hc1.2.1 (.inr (s, 7)) P).toInt = (st : Int) := hst
  have mm : (min u v = u ∧ max u v = v) ∨ (min u v = v ∧ max u v = u) := by omega
  intro j
  induction j with
  | zero =>
    intro c T g gr e c1 T3 W
    have l1 : hc1.2.1 (.inr (s, 7)) P < nI c := i_lt hst' (nI_toInt (n := c) (by omega)) (by omega)
    obtain ⟨s7, s5, s6⟩ := hs7 g W.2.2.2.1
    have r7 := hr7 gr W.2.2.2.2.1
    refine ⟨_, _, ?_, ?_, wi_link (x := hc1.2.1 (.inr (s, 7)) P) W (by omega) (by omega) o1 o2 mm⟩
    · rw [g13_102_eq, nI_cl (by omega), s7, s5, s6, if_pos l1]
      simp only [x_h]
      rw [f26_eq, i_cl z1, i_cl z2, nI_s]
    · rw [g251_153_eq, i_cl h4, r7, if_pos l1]
      simp only [x_h]
      rw [f225_eq, i_cl z3, i_cl z4, nI_s]
  | succ j ih =>
    intro c T g gr e c1 T3 W
    have l1 : ¬ hc1.2.1 (.inr (s, 7)) P < nI c := i_nlt hst' (nI_toInt (n := c) (by omega)) (by omega)
    obtain ⟨s7, s5, s6⟩ := hs7 g W.2.2.2.1
    have r7 := hr7 gr W.2.2.2.2.1
    have sb : (hc1.2.1 (.inr (s, 7)) P - nI c).toInt = (st : Int) - c := i_sub hst' (nI_toInt (n := c) (by omega)) (by omega) (by omega)
    have W1 := wi_link (x := hc1.2.1 (.inr (s, 7)) P - nI c) W (by omega) (by omega) o1 o2 mm
    have W2 := wi_try (a3 := nI P) (a4 := nI (F + P)) (a5 := nI c) W1 D (by omega) (by omega) h2 q1 q9 (Or.inr ⟨P, Pn, rfl, rfl⟩)
    obtain ⟨g', gr', y1, y2, y3⟩ := ih (c + 1) (T + 1) (by omega) (by omega) (by omega) W2
    refine ⟨g', gr', ?_, ?_, by rw [show T + (j + 1) = T + 1 + j by omega]; exact y3⟩
    · rw [g13_102_eq, nI_cl (by omega), s7, s5, s6, if_neg l1]
      simp only [x_h]
      rw [f26_eq, i_cl z1, i_cl z2, nI_s]
      exact y1
    · rw [g251_153_eq, i_cl h4, r7, if_neg l1]
      simp only [x_h]
      rw [f225_eq, i_cl z3, i_cl z4, nI_s]
      exact y2
/-- all bodies, all pieces -/
theorem W90 (D : wt hc1 hr1 a1 m t) (Ds : rs_D hc1 hr1 N s C n F) (Hm : ∀ b, b < N → ¬ (F ≤ b ∧ b < F + n) → hr1.2.1 (.inl 117) b = 0 ∨ ∃ s' u v : Nat, s' ≤ 12 ∧ s' ≠ s ∧ u < 6 ∧ v < 6 ∧ rD hr1 (.inl 117) b = ((36 * s' + 6 * u + v + 1 : Nat) : Int)) (st1 : ∀ P, P < n → 1 ≤ rD hc1 (.inr (s, 7)) P ∧ rD hc1 (.inr (s, 7)) P ≤ 9) (n15 : n ≤ 15) (N200 : N ≤ 200) (hN : rD hr1 (.inl 105) 12 = N) (h1 : a1.toInt = (s : Int)) (s12 : s ≤ 12) (h2 : a2.toInt = q) (q1 : 1 ≤ q) (q9 : q ≤ 9) (hb : b + 100000 < 2147483647) : ∀ (j B k T : Nat) {g gr : mx_H}, B + j = N → (B ≤ F ∧ k = 0) ∨ (F < B ∧ B ≤ F + n ∧ k = B - F) ∨ (F + n < B ∧ k = n) → T ≤ 1 + 9 * k → wi hc1 hr1 g gr C F n b T → ∃ g' gr' T', g13_90 s 0 a2 (nI m) (nI k) g = g' ∧ g251_115 a1 a2 (nI B) gr = gr' ∧ T' ≤ 200 ∧ wi hc1 hr1 g' gr' C F n b T' := by
  obtain ⟨c1, c6, fn, d1, d2, d3, d4, d5, d6, d7, d8, d9, d10⟩ := id Ds
  intro j
  induction j with
  | zero =>
    intro B k T g gr e K TT W
    have kn : k = n := by omega
    have en : rD g (.inr (s, 0)) 6 = n := (congrArg Int32.toInt (W.2.2.2.1.1.1 s 0 6 (by decide))).trans d3
    have eN : rD gr (.inl 105) 12 = N := (congrArg Int32.toInt (W.2.2.2.2.1.2 12 (by decide) (by decide) (by decide) (by decide) (by decide) (by decide))).trans hN
    refine ⟨g, gr, T, ?_, ?_, by omega, W⟩
    · rw [g13_90_eq, if_pos (i_le en (nI_toInt (n := k) (by omega)) (by omega))]
    · rw [g251_115_eq, if_pos (i_le eN (nI_toInt (n := B) (by omega)) (by omega))]
  | succ j ih =>
    intro B k T g gr e K TT W
    have en : rD g (.inr (s, 0)) 6 = n := (congrArg Int32.toInt (W.2.2.2.1.1.1 s 0 6 (by decide))).trans d3
    have eN : rD gr (.inl 105) 12 = N := (congrArg Int32.toInt (W.2.2.2.2.1.2 12 (by decide) (by decide) (by decide) (by decide) (by decide) (by decide))).trans hN
    have e117 : gr.2.1 (.inl 117) B = hr1.2.1 (.inl 117) B := W.2.2.2.2.1.1 117 B (by omega) (by decide) (by decide)
    have nB : ¬ gr.2.1 (.inl 105) 12 ≤ nI B := i_nle eN (nI_toInt (n := B) (by omega)) (by omega)
    by_cases z : F ≤ B ∧ B < F + n
    · have kB : k = B - F := by omega
      obtain ⟨u, v, Q⟩ := d7 k (by omega)
      have o12 : rD hr1 (.inl 117) B = ((36 * s + 6 * u + v + 1 : Nat) : Int) := by
        have := Q.2.2.2.2.2.2.2.2.2.2.2.1
        rw [show F + k = B by omega] at this
        exact this
      have hu : u < 6 := by have := Q.1; omega
      have hv : v < 6 := by have := Q.2.1; omega
      have t4 := R278t o12 hu hv s12
      obtain ⟨x1, x2, x3⟩ := R_dec t4 hu hv s12
      have s79 := st1 k (by omega)
      obtain ⟨g', gr', y1, y2, y3⟩ := W102 (a1 := a1) D Q c6 s12 (show k < n by omega) (by omega) (st := (rD hc1 (.inr (s, 7)) k).toNat) (by omega) (by omega) t4 h2 q1 q9 hb ((rD hc1 (.inr (s, 7)) k).toNat) 1 T (by omega) (Nat.le_refl _) (by omega) W
      have c1 : g13_90 s 0 a2 (nI m) (nI k) g = g13_102 s 0 a2 (nI m) (nI k) (nI 1) g := by
        rw [g13_90_eq, if_neg (i_nle en (nI_toInt (n := k) (by omega)) (by omega))]
        rfl
      have c2 : g251_115 a1 a2 (nI B) gr = g251_153 a1 a2 (nI B) (hr1.2.1 (.inl 117) B - 1) (nI 1) gr := by
        rw [g251_115_eq, if_neg nB, nI_cl (by omega), e117, if_neg (i_nlt t4 k_0 (by omega)), if_pos (i_eq x1 h1 rfl)]
        rfl
      rw [show F + k = B by omega] at y2
      obtain ⟨g2, gr2, T2, v1, v2, v3, v4⟩ := ih (B + 1) (k + 1) (T + (rD hc1 (.inr (s, 7)) k).toNat) (by omega) (by omega) (by omega) y3
      exact ⟨g2, gr2, T2, c1.trans (y1.trans v1), c2.trans (y2.trans v2), v3, v4⟩
    · have c2 : g251_115 a1 a2 (nI B) gr = g251_115 a1 a2 (nI (B + 1)) gr := by
        rw [g251_115_eq, if_neg nB, nI_cl (by omega), e117, nI_s]
        rcases Hm B (by omega) z with w | ⟨s', u, v, w1, w2, w3, w4, w5⟩
        · rw [w, if_pos (by decide)]
        · have t4 := R278t w5 w3 w4 w1
          obtain ⟨x1, x2, x3⟩ := R_dec t4 w3 w4 w1
          rw [if_neg (i_nlt t4 k_0 (by omega)), if_neg (i_ne x1 h1 (by omega))]
      obtain ⟨g2, gr2, T2, v1, v2, v3, v4⟩ := ih (B + 1) k T (by omega) (by omega) TT W
      exact ⟨g2, gr2, T2, v1, c2.trans v2, v3, v4⟩
end MYF
