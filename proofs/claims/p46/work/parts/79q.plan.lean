/-! ===== the told strokes and wishes, on both sides ===== -/
section RTI
variable {h g hc hr hc' hr' : mx_H} {S S' N s n C F u v c k P W j t : Nat} {a a1 a2 a3 a4 a5 x y : Int32}
/-- stroke j of the list, of shape s -/
def rl_e (hc hr : mx_H) (s j : Nat) : Prop := hc.2.1 (.inl 63) j = hr.2.1 (.inl 142) j ∧ ((hc.2.1 (.inl 61) j = 3 ∧ hc.2.1 (.inl 62) j = hr.2.1 (.inl 140) j ∧ hr.2.1 (.inl 141) j = -1) ∨ (hc.2.1 (.inl 61) j = 4 ∧ ∃ k u v : Nat, rD hc (.inl 62) j = k ∧ (k : Int) < rD hc (.inr (s, 0)) 6 ∧ (u < 6 ∧ v < 6 ∧ u ≠ v) ∧ rD hc (.inr (s, 5)) k = ((min u v : Nat) : Int) ∧ rD hc (.inr (s, 6)) k = ((max u v : Nat) : Int) ∧ rD hr (.inl 140) j = u ∧ rD hr (.inl 141) j = v))
def rl_w (hc hr : mx_H) (j : Nat) : Prop := hc.2.1 (.inl 64) j = hr.2.1 (.inl 143) j ∧ hc.2.1 (.inl 65) j = hr.2.1 (.inl 144) j ∧ hc.2.1 (.inl 66) j = hr.2.1 (.inl 145) j
def rl_P (hc hr : mx_H) (S P : Nat) : Prop := P ≤ 6 ∧ rD hc (.inl 60) 1 = P ∧ rD hr (.inl 105) 51 = P ∧ (0 < P → ∃ s : Nat, s < S ∧ rD hc (.inl 60) 0 = s ∧ rD hr (.inl 105) 52 = s ∧ ∀ j, j < P → rl_e hc hr s j)
def rl_W (hc hr : mx_H) (W : Nat) : Prop := W ≤ 6 ∧ rD hc (.inl 60) 5 = W ∧ rD hr (.inl 105) 56 = W ∧ ∀ j, j < W → rl_w hc hr j
def rt_L (hc hr : mx_H) (S : Nat) : Prop := (∃ P, rl_P hc hr S P) ∧ ∃ W, rl_W hc hr W
theorem rl_e.fx (p : ∀ q, 61 ≤ q → q ≤ 63 → hc'.2.1 (.inl q) j = hc.2.1 (.inl q) j) (r : ∀ q, 140 ≤ q → q ≤ 142 → hr'.2.1 (.inl q) j = hr.2.1 (.inl q) j) (s6 : hc'.2.1 (.inr (s, 0)) 6 = hc.2.1 (.inr (s, 0)) 6) (s5 : ∀ k, hc'.2.1 (.inr (s, 5)) k = hc.2.1 (.inr (s, 5)) k ∧ hc'.2.1 (.inr (s, 6)) k = hc.2.1 (.inr (s, 6)) k) (e : rl_e hc hr s j) : rl_e hc' hr' s j := by
  unfold rl_e rD at e ⊢
  rw [p 61 (by decide +kernel) (by decide +kernel), p 62 (by decide +kernel) (by decide +kernel), p 63 (by decide +kernel) (by decide +kernel), r 140 (by decide +kernel) (by decide +kernel), r 141 (by decide +kernel) (by decide +kernel), r 142 (by decide +kernel) (by decide +kernel), s6]
  obtain ⟨e1, e2⟩ := e
  refine ⟨e1, ?_⟩
  rcases e2 with e2 | ⟨e2, k, u, v, q1, q2, q3, q4, q5, q6, q7⟩
  · exact Or.inl e2
  · refine Or.inr ⟨e2, k, u, v, q1, q2, q3, ?_, ?_, q6, q7⟩
    · rw [(s5 k).1]
      exact q4
    · rw [(s5 k).2]
      exact q5
theorem rl_P.fx (SS : S ≤ S') (p : ∀ q i, 60 ≤ q → q ≤ 63 → (q = 60 → i = 0 ∨ i = 1) → hc'.2.1 (.inl q) i = hc.2.1 (.inl q) i) (r : ∀ q i, 140 ≤ q → q ≤ 142 → hr'.2.1 (.inl q) i = hr.2.1 (.inl q) i) (r1 : hr'.2.1 (.inl 105) 51 = hr.2.1 (.inl 105) 51) (r2 : hr'.2.1 (.inl 105) 52 = hr.2.1 (.inl 105) 52) (sc : rh_s S hc hc') (L : rl_P hc hr S P) : rl_P hc' hr' S' P := by
  obtain ⟨l1, l2, l3, l4⟩ := L
  refine ⟨l1, ?_, ?_, fun z => ?_⟩
  · unfold rD
    rw [p 60 1 (by decide +kernel) (by decide +kernel) (by omega)]
    exact l2
  · unfold rD
    rw [r1]
    exact l3
  · obtain ⟨s, s1, s2, s3, s4⟩ := l4 z
    refine ⟨s, by omega, ?_, ?_, fun j hj => (s4 j hj).fx (fun q w1 w2 => p q j (by omega) w2 (by omega)) (fun q w1 w2 => r q j w1 w2) (sc s s1).1 (sc s s1).2⟩
    · unfold rD
      rw [p 60 0 (by decide +kernel) (by decide +kernel) (by omega)]
      exact s2
    · unfold rD
      rw [r2]
      exact s3
theorem rl_W.fx (p5 : hc'.2.1 (.inl 60) 5 = hc.2.1 (.inl 60) 5) (p : ∀ q i, 64 ≤ q → q ≤ 66 → hc'.2.1 (.inl q) i = hc.2.1 (.inl q) i) (r : ∀ q i, 143 ≤ q → q ≤ 145 → hr'.2.1 (.inl q) i = hr.2.1 (.inl q) i) (r1 : hr'.2.1 (.inl 105) 56 = hr.2.1 (.inl 105) 56) (L : rl_W hc hr W) : rl_W hc' hr' W := by
  obtain ⟨l1, l2, l3, l4⟩ := L
  refine ⟨l1, ?_, ?_, fun j hj => ?_⟩
  · unfold rD
    rw [p5]
    exact l2
  · unfold rD
    rw [r1]
    exact l3
  · unfold rl_w
    rw [p 64 j (by decide +kernel) (by decide +kernel), p 65 j (by decide +kernel) (by decide +kernel), p 66 j (by decide +kernel) (by decide +kernel), r 143 j (by decide +kernel) (by decide +kernel), r 144 j (by decide +kernel) (by decide +kernel), r 145 j (by decide +kernel) (by decide +kernel)]
    exact l4 j hj
/-- whether a stroke is told: the class -/
theorem C43 (hP : rD h (.inl 60) 1 = P) (P6 : P ≤ 6) : ∀ (i j : Nat) (a3 : Int32), j + i = P → a3.toInt = (j : Int) → (∃ q, j ≤ q ∧ q < P ∧ h.2.1 (.inl 61) q = x ∧ h.2.1 (.inl 62) q = y ∧ g43_2 x y a3 h = 1) ∨ ((∀ q, j ≤ q → q < P → ¬ (h.2.1 (.inl 61) q = x ∧ h.2.1 (.inl 62) q = y)) ∧ g43_2 x y a3 h = 0)
  | 0, j, a3, e, ha => Or.inr ⟨fun q l1 l2 => by omega, by rw [g43_2_eq, if_pos (i_le hP ha (by omega))]⟩
  | i + 1, j, a3, e, ha => by
    have E := g43_2_eq x y a3 h
    rw [if_neg (i_nle hP ha (by omega)), i_cl ha] at E
    have nx := C43 hP P6 i (j + 1) (a3 + 1) (by omega) ((i_add ha k_1 (by omega) (by omega)).trans (by omega))
    by_cases m : h.2.1 (.inl 61) j = x ∧ h.2.1 (.inl 62) j = y
    · rw [if_neg (fun z => z m.1), if_neg (fun z => z m.2)] at E
      exact Or.inl ⟨j, Nat.le_refl _, by omega, m.1, m.2, E⟩
    · have E' : g43_2 x y a3 h = g43_2 x y (a3 + 1) h := by
        by_cases m1 : h.2.1 (.inl 61) j = x
        · rw [if_neg (fun z => z m1), if_pos (fun z => m ⟨m1, z⟩)] at E
          exact E
        · rw [if_pos m1] at E
          exact E
      rw [E']
      rcases nx with ⟨q, q1, q2, q3, q4, q5⟩ | ⟨q1, q2⟩
      · exact Or.inl ⟨q, by omega, q2, q3, q4, q5⟩
      · refine Or.inr ⟨fun q l1 l2 => ?_, q2⟩
        by_cases ej : q = j
        · rw [ej]
          exact m
        · exact q1 q (by omega) l2
/-- whether it is told: the reference -/
def rl_m (h : mx_H) (a2 a3 : Int32) (q : Nat) : Prop := (h.2.1 (.inl 140) q = a2 ∧ h.2.1 (.inl 141) q = a3) ∨ (¬ a3 < 0 ∧ h.2.1 (.inl 140) q = a3 ∧ h.2.1 (.inl 141) q = a2)
theorem R239 (hP : rD h (.inl 105) 51 = P) (P6 : P ≤ 6) : ∀ (i j : Nat) (a5 : Int32), j + i = P → a5.toInt = (j : Int) → (∃ q, j ≤ q ∧ q < P ∧ rl_m h a2 a3 q ∧ g239_61 a1 a2 a3 a4 a5 h = (-1, h)) ∨ ((∀ q, j ≤ q → q < P → ¬ rl_m h a2 a3 q) ∧ ∃ b : Int32, b.toInt = (P : Int) ∧ g239_61 a1 a2 a3 a4 a5 h = g239_61 a1 a2 a3 a4 b h)
  | 0, j, a5, e, ha => Or.inr ⟨fun q l1 l2 => by omega, a5, ha.trans (by omega), rfl⟩
  | i + 1, j, a5, e, ha => by
    have E := g239_61_eq a1 a2 a3 a4 a5 h
    rw [if_neg (i_nle hP ha (by omega)), i_cl ha] at E
    have nx := R239 hP P6 i (j + 1) (a5 + 1) (by omega) ((i_add ha k_1 (by omega) (by omega)).trans (by omega))
    have D : (rl_m h a2 a3 j ∧ g239_61 a1 a2 a3 a4 a5 h = (-1, h)) ∨ (¬ rl_m h a2 a3 j ∧ g239_61 a1 a2 a3 a4 a5 h = g239_61 a1 a2 a3 a4 (a5 + 1) h) := by
      by_cases m1 : h.2.1 (.inl 140) j = a2
      · rw [if_neg (fun z => z m1)] at E
        by_cases m2 : h.2.1 (.inl 141) j = a3
        · rw [if_pos m2] at E
          exact Or.inl ⟨Or.inl ⟨m1, m2⟩, E⟩
        · rw [if_neg m2] at E
          by_cases m3 : a3 < 0
          · rw [if_pos m3] at E
            exact Or.inr ⟨fun z => z.elim (fun z => m2 z.2) (fun z => z.1 m3), E⟩
          · rw [if_neg m3] at E
            by_cases m4 : h.2.1 (.inl 140) j = a3
            · rw [if_neg (fun z => z m4)] at E
              by_cases m5 : h.2.1 (.inl 141) j = a2
              · rw [if_neg (fun z => z m5)] at E
                exact Or.inl ⟨Or.inr ⟨m3, m4, m5⟩, E⟩
              · rw [if_pos m5] at E
                exact Or.inr ⟨fun z => z.elim (fun z => m2 z.2) (fun z => m5 z.2.2), E⟩
            · rw [if_pos m4] at E
              exact Or.inr ⟨fun z => z.elim (fun z => m2 z.2) (fun z => m4 z.2.1), E⟩
      · rw [if_pos m1] at E
        by_cases m3 : a3 < 0
        · rw [if_pos m3] at E
          exact Or.inr ⟨fun z => z.elim (fun z => m1 z.1) (fun z => z.1 m3), E⟩
        · rw [if_neg m3] at E
          by_cases m4 : h.2.1 (.inl 140) j = a3
          · rw [if_neg (fun z => z m4)] at E
            by_cases m5 : h.2.1 (.inl 141) j = a2
            · rw [if_neg (fun z => z m5)] at E
              exact Or.inl ⟨Or.inr ⟨m3, m4, m5⟩, E⟩
            · rw [if_pos m5] at E
              exact Or.inr ⟨fun z => z.elim (fun z => m1 z.1) (fun z => m5 z.2.2), E⟩
          · rw [if_pos m4] at E
            exact Or.inr ⟨fun z => z.elim (fun z => m1 z.1) (fun z => m4 z.2.1), E⟩
    rcases D with ⟨d1, d2⟩ | ⟨d1, d2⟩
    · exact Or.inl ⟨j, Nat.le_refl _, by omega, d1, d2⟩
    · rcases nx with ⟨q, q1, q2, q3, q4⟩ | ⟨q1, b, q2, q3⟩
      · exact Or.inl ⟨q, by omega, q2, q3, d2.trans q4⟩
      · refine Or.inr ⟨fun q l1 l2 => ?_, b, q2, d2.trans q3⟩
        by_cases ej : q = j
        · rw [ej]
          exact d1
        · exact q1 q (by omega) l2
def r_pl (h : mx_H) (P : Nat) (a1 a2 a3 a4 : Int32) : mx_H := mx_uI (mx_uI (mx_uI (mx_uI (mx_uI h (.inl 105) 52 a1) (.inl 140) P a2) (.inl 141) P a3) (.inl 142) P a4) (.inl 105) 51 (h.2.1 (.inl 105) 51 + 1)
theorem R239x {b : Int32} (hP : rD h (.inl 105) 51 = P) (hb : b.toInt = (P : Int)) : g239_61 a1 a2 a3 a4 b h = if a3 < 0 then (if h.2.1 (.inl 105) 51 ≠ 6 then (h.2.1 (.inl 105) 51 + 1, r_pl h P a1 a2 a3 a4) else (-3, h)) else (if a2 = a3 then (-2, h) else (if f180 a1 a2 a3 h ≠ 0 then (if h.2.1 (.inl 105) 51 ≠ 6 then (h.2.1 (.inl 105) 51 + 1, r_pl h P a1 a2 a3 a4) else (-3, h)) else (-2, h))) := by
  rw [g239_61_eq, if_pos (i_le hP hb (by omega))]
  have e : r_pl h P a1 a2 a3 a4 = r_pl h (Int32.toNatClampNeg (h.2.1 (.inl 105) 51)) a1 a2 a3 a4 := by rw [i_cl hP]
  rw [e]
  rfl
def k_pl (h : mx_H) (P : Nat) (a1 x y a4 : Int32) : mx_H := mx_uI (mx_uI (mx_uI (mx_uI (mx_uI h (.inl 60) 0 a1) (.inl 61) P x) (.inl 62) P y) (.inl 63) P a4) (.inl 60) 1 (h.2.1 (.inl 60) 1 + 1)
theorem C44 (hP : rD h (.inl 60) 1 = P) (P6 : P < 6) : f44 x y a4 (mx_uI h (.inl 60) 0 a1) = k_pl h P a1 x y a4 := by
  have e : k_pl h P a1 x y a4 = k_pl h (Int32.toNatClampNeg (h.2.1 (.inl 60) 1)) a1 x y a4 := by rw [i_cl hP]
  rw [f44_eq, if_pos (show (mx_uI h (.inl 60) 0 a1).2.1 (.inl 60) 1 < 6 from i_lt (show ((mx_uI h (.inl 60) 0 a1).2.1 (.inl 60) 1).toInt = P from hP) k_6 (by omega)), e]
  rfl
theorem C120 (ne : a3 ≠ -1) : g120_65 a1 a2 a3 a4 s h = if 0 ≤ f61 s a2 a3 h then (if f43 4 (f61 s a2 a3 h) h = 0 then (if h.2.1 (.inl 60) 1 < 6 then ((f44 4 (f61 s a2 a3 h) a4 (mx_uI h (.inl 60) 0 a1)).2.1 (.inl 60) 1, f44 4 (f61 s a2 a3 h) a4 (mx_uI h (.inl 60) 0 a1)) else (-3, h)) else (-1, h)) else (-2, h) := by
  rw [g120_65_eq, if_pos ne, if_pos ne]
  rfl
theorem C120h (eq : a3 = -1) : g120_65 a1 a2 a3 a4 s h = if 0 ≤ a2 then (if f43 3 a2 h = 0 then (if h.2.1 (.inl 60) 1 < 6 then ((f44 3 a2 a4 (mx_uI h (.inl 60) 0 a1)).2.1 (.inl 60) 1, f44 3 a2 a4 (mx_uI h (.inl 60) 0 a1)) else (-3, h)) else (-1, h)) else (-2, h) := by
  rw [g120_65_eq, if_neg (fun z => z eq), if_neg (fun z => z eq)]
  rfl
/-- a stroke more -/
theorem rl_add (hs : s < S) (P6 : P < 6) (hP : rD hc (.inl 60) 1 = P) (hQ : rD hr (.inl 105) 51 = P) (h1 : a1.toInt = (s : Int)) (E : ∀ j, j < P → rl_e hc hr s j) (new : ∀ g g' : mx_H, g.2.1 (.inl 61) P = x → g.2.1 (.inl 62) P = y → g.2.1 (.inl 63) P = a4 → g'.2.1 (.inl 140) P = a2 → g'.2.1 (.inl 141) P = a3 → g'.2.1 (.inl 142) P = a4 → (∀ q i, g.2.1 (.inr q) i = hc.2.1 (.inr q) i) → rl_e g g' s P) : rl_P (k_pl hc P a1 x y a4) (r_pl hr P a1 a2 a3 a4) S (P + 1) := by
  have c1 : ∀ i, (k_pl hc P a1 x y a4).2.1 (.inl 61) i = if i = P then x else hc.2.1 (.inl 61) i := fun i => (show (mx_uI (mx_uI hc (.inl 60) 0 a1) (.inl 61) P x).2.1 (.inl 61) i = _ from sh_i)
  have c2 : ∀ i, (k_pl hc P a1 x y a4).2.1 (.inl 62) i = if i = P then y else hc.2.1 (.inl 62) i := fun i => (show (mx_uI (mx_uI (mx_uI hc (.inl 60) 0 a1) (.inl 61) P x) (.inl 62) P y).2.1 (.inl 62) i = _ from sh_i)
  have c3 : ∀ i, (k_pl hc P a1 x y a4).2.1 (.inl 63) i = if i = P then a4 else hc.2.1 (.inl 63) i := fun i => (show (mx_uI (mx_uI (mx_uI (mx_uI hc (.inl 60) 0 a1) (.inl 61) P x) (.inl 62) P y) (.inl 63) P a4).2.1 (.inl 63) i = _ from sh_i)
  have d1 : ∀ i, (r_pl hr P a1 a2 a3 a4).2.1 (.inl 140) i = if i = P then a2 else hr.2.1 (.inl 140) i := fun i => (show (mx_uI (mx_uI hr (.inl 105) 52 a1) (.inl 140) P a2).2.1 (.inl 140) i = _ from sh_i)
  have d2 : ∀ i, (r_pl hr P a1 a2 a3 a4).2.1 (.inl 141) i = if i = P then a3 else hr.2.1 (.inl 141) i := fun i => (show (mx_uI (mx_uI (mx_uI hr (.inl 105) 52 a1) (.inl 140) P a2) (.inl 141) P a3).2.1 (.inl 141) i = _ from sh_i)
  have d3 : ∀ i, (r_pl hr P a1 a2 a3 a4).2.1 (.inl 142) i = if i = P then a4 else hr.2.1 (.inl 142) i := fun i => (show (mx_uI (mx_uI (mx_uI (mx_uI hr (.inl 105) 52 a1) (.inl 140) P a2) (.inl 141) P a3) (.inl 142) P a4).2.1 (.inl 142) i = _ from sh_i)
  refine ⟨by omega, ?_, ?_, fun _ => ⟨s, hs, h1, h1, fun j hj => ?_⟩⟩
  · show (hc.2.1 (.inl 60) 1 + 1).toInt = _
    exact (i_add hP k_1 (by omega) (by omega)).trans (by omega)
  · show (hr.2.1 (.inl 105) 51 + 1).toInt = _
    exact (i_add hQ k_1 (by omega) (by omega)).trans (by omega)
  · by_cases e : j = P
    · rw [e]
      exact new _ _ (by rw [c1, if_pos rfl]) (by rw [c2, if_pos rfl]) (by rw [c3, if_pos rfl]) (by rw [d1, if_pos rfl]) (by rw [d2, if_pos rfl]) (by rw [d3, if_pos rfl]) (fun _ _ => rfl)
    · refine rl_e.fx (hc := hc) (hr := hr) (fun q w1 w2 => ?_) (fun q w1 w2 => ?_) rfl (fun _ => ⟨rfl, rfl⟩) (E j (by omega))
      · rcases (show q = 61 ∨ q = 62 ∨ q = 63 by omega) with w | w | w
        · subst w
          rw [c1, if_neg e]
        · subst w
          rw [c2, if_neg e]
        · subst w
          rw [c3, if_neg e]
      · rcases (show q = 140 ∨ q = 141 ∨ q = 142 by omega) with w | w | w
        · subst w
          rw [d1, if_neg e]
        · subst w
          rw [d2, if_neg e]
        · subst w
          rw [d3, if_neg e]
set_option maxHeartbeats 8000000 in
/-- the list's own part of plan -/
theorem rl_core (A : rs_A hc hr S N) (hs : s < S) (Ds : rs_D hc hr N s C n F) (h1 : a1.toInt = (s : Int)) (hx : a2.toInt = (u : Int)) (hu : u < C) (b3 : a3 = -1 ∨ ∃ v, v < C ∧ a3.toInt = (v : Int)) (P6 : P ≤ 6) (hP : rD hc (.inl 60) 1 = P) (hQ : rD hr (.inl 105) 51 = P) (L0 : rl_P hc hr S P) (LW : rl_W hc hr W) (E : ∀ j, j < P → rl_e hc hr s j) : (g120_65 a1 a2 a3 a4 s hc).1 = (g239_61 a1 a2 a3 a4 0 hr).1 ∧ rt_L (g120_65 a1 a2 a3 a4 s hc).2 (g239_61 a1 a2 a3 a4 0 hr).2 S := by
  have A2 := A.2.1
  have A1 := A.1
  have C6 := Ds.2.1
  have n15 : n ≤ 15 := by
    rw [Ds.2.2.2.2.2.2.2.2.2.2.2.1]
    exact sd_C_15 _
  have n6 := Ds.2.2.2.2.2.1
  have pq : hc.2.1 (.inl 60) 1 = hr.2.1 (.inl 105) 51 := i_eq hP hQ rfl
  have ref := R239 (a1 := a1) (a2 := a2) (a3 := a3) (a4 := a4) hQ P6 P 0 0 (by omega) rfl
  by_cases m : a3 = -1
  · -- a corner
    rw [C120h m, if_pos (show (0 : Int32) ≤ a2 from i_le k_0 hx (by omega)), f43_eq]
    have mr : ∀ q, q < P → (rl_m hr a2 a3 q ↔ hc.2.1 (.inl 61) q = 3 ∧ hc.2.1 (.inl 62) q = a2) := fun q hq => by
      obtain ⟨-, e2⟩ := E q hq
      rcases e2 with ⟨w1, w2, w3⟩ | ⟨w1, k, u', v', w2, w3, w4, w5, w6, w7, w8⟩
      · refine ⟨fun z => ⟨w1, ?_⟩, fun z => Or.inl ⟨w2.symm.trans z.2, w3.trans m.symm⟩⟩
        rcases z with z | z
        · exact w2.trans z.1
        · exact absurd (show a3 < 0 by rw [m]; decide) z.1
      · refine ⟨fun z => ?_, fun z => ?_⟩
        · exfalso
          rcases z with z | z
          · rw [m] at z
            have := congrArg Int32.toInt z.2
            unfold rD at w8
            rw [w8, k_m1] at this
            omega
          · exact absurd (show a3 < 0 by rw [m]; decide) z.1
        · rw [w1] at z
          exact absurd z.1 (by decide +kernel)
    rcases C43 (x := 3) (y := a2) hP P6 P 0 0 (by omega) rfl with ⟨q, q1, q2, q3, q4, q5⟩ | ⟨q1, q5⟩
    · rcases ref with ⟨-, -, -, -, r⟩ | ⟨r, -⟩
      · rw [q5, if_neg n10, r]
        exact ⟨rfl, ⟨P, L0⟩, W, LW⟩
      · exact absurd ((mr q q2).mpr ⟨q3, q4⟩) (r q q1 q2)
    · rcases ref with ⟨q, w1, w2, w3, w4⟩ | ⟨-, b, r1, r2⟩
      · exact absurd ((mr q w2).mp w3) (q1 q w1 w2)
      · rw [q5, if_pos rfl, r2, R239x hQ r1, if_pos (show a3 < 0 by rw [m]; decide)]
        by_cases f : P = 6
        · rw [if_neg (i_nlt hP k_6 (by omega)), if_neg (fun z => z (i_eq hQ k_6 (by omega)))]
          exact ⟨rfl, ⟨P, L0⟩, W, LW⟩
        · rw [if_pos (i_lt hP k_6 (by omega)), if_pos (show hr.2.1 (.inl 105) 51 ≠ 6 from i_ne hQ k_6 (by omega)), C44 hP (by omega)]
          refine ⟨?_, ⟨P + 1, rl_add hs (by omega) hP hQ h1 E (fun g g' t1 t2 t3 t4 t5 t6 t7 => ⟨t3.trans t6.symm, Or.inl ⟨t1, t2.trans t4.symm, t5.trans m⟩⟩)⟩, W, LW⟩
          show hc.2.1 (.inl 60) 1 + 1 = hr.2.1 (.inl 105) 51 + 1
          rw [pq]
  · -- a piece
    obtain ⟨v, hv, hy⟩ := b3.resolve_left m
    have n3 : ¬ a3 < 0 := i_nlt hy k_0 (by omega)
    rw [C120 m]
    have kk : ∀ k' u' v' : Nat, (k' : Int) < rD hc (.inr (s, 0)) 6 → rD hc (.inr (s, 5)) k' = ((min u' v' : Nat) : Int) → rD hc (.inr (s, 6)) k' = ((max u' v' : Nat) : Int) → u' ≠ v' → rs_k hc hr s C F k' u' v' ∨ rs_k hc hr s C F k' v' u' := fun k' u' v' z1 z2 z3 z4 => by
      obtain ⟨u0, v0, Q0⟩ := Ds.2.2.2.2.2.2.2.2.2.1 k' (by omega)
      have p4 := Q0.2.2.2.1
      have p5 := Q0.2.2.2.2.1
      have t : (u0 = u' ∧ v0 = v') ∨ (u0 = v' ∧ v0 = u') := by omega
      rcases t with ⟨t1, t2⟩ | ⟨t1, t2⟩
      · rw [t1, t2] at Q0
        exact Or.inl Q0
      · rw [t1, t2] at Q0
        exact Or.inr Q0
    have swap : ∀ q, q < P → rl_m hr a2 a3 q → ∃ k', hc.2.1 (.inl 61) q = 4 ∧ rD hc (.inl 62) q = (k' : Nat) ∧ (k' : Int) < rD hc (.inr (s, 0)) 6 ∧ u ≠ v ∧ (rs_k hc hr s C F k' u v ∨ rs_k hc hr s C F k' v u) := fun q hq z => by
      obtain ⟨-, e2⟩ := E q hq
      rcases e2 with ⟨w1, w2, w3⟩ | ⟨w1, k', u', v', w2, w3, w4, w5, w6, w7, w8⟩
      · exfalso
        rcases z with z | z
        · have := congrArg Int32.toInt (z.2.symm.trans w3)
          rw [hy, k_m1] at this
          omega
        · have := congrArg Int32.toInt (z.2.2.symm.trans w3)
          rw [hx, k_m1] at this
          omega
      · have K := kk k' u' v' w3 w5 w6 w4.2.2
        unfold rD at w7 w8
        rcases z with z | z
        · have z1 := congrArg Int32.toInt z.1
          have z2 := congrArg Int32.toInt z.2
          have e1 : u' = u := by omega
          have e2 : v' = v := by omega
          rw [e1, e2] at K w4
          exact ⟨k', w1, w2, w3, w4.2.2, K⟩
        · have z1 := congrArg Int32.toInt z.2.1
          have z2 := congrArg Int32.toInt z.2.2
          have e1 : u' = v := by omega
          have e2 : v' = u := by omega
          rw [e1, e2] at K w4
          exact ⟨k', w1, w2, w3, fun t => w4.2.2 t.symm, K.symm⟩
    rcases rs_pb (a := a1) Ds n15 A2 (by omega) h1 hx hy hu hv with ⟨k, hk, ne, ek, Q, f1, Wp⟩ | ⟨ek, un⟩
    · rw [if_pos (show 0 ≤ f61 s a2 a3 hc from i_le k_0 ek (by omega)), f43_eq]
      have bq := rs_k.b Q
      have mr : ∀ q, q < P → (rl_m hr a2 a3 q ↔ hc.2.1 (.inl 61) q = 4 ∧ hc.2.1 (.inl 62) q = f61 s a2 a3 hc) := fun q hq => by
        refine ⟨fun z => ?_, fun z => ?_⟩
        · obtain ⟨k', w1, w2, w3, w4, K⟩ := swap q hq z
          have b' := rs_k.b K
          have e1 := bq.2.2.2.2.2.1
          have e2 := b'.2.2.2.2.2.1
          exact ⟨w1, i_eq w2 ek (by omega)⟩
        · obtain ⟨-, e2⟩ := E q hq
          rcases e2 with ⟨w1, w2, w3⟩ | ⟨w1, k', u', v', w2, w3, w4, w5, w6, w7, w8⟩
          · rw [w1] at z
            exact absurd z.1 (by decide +kernel)
          · have kq : k' = k := by
              unfold rD at w2
              rw [z.2, ek] at w2
              omega
            subst kq
            have l1 := bq.2.2.2.1
            have l2 := bq.2.2.2.2.1
            have t : (u' = u ∧ v' = v) ∨ (u' = v ∧ v' = u) := by omega
            rcases t with ⟨t1, t2⟩ | ⟨t1, t2⟩
            · exact Or.inl ⟨i_eq w7 hx (by omega), i_eq w8 hy (by omega)⟩
            · exact Or.inr ⟨n3, i_eq w7 hy (by omega), i_eq w8 hx (by omega)⟩
      rcases C43 (x := 4) (y := f61 s a2 a3 hc) hP P6 P 0 0 (by omega) rfl with ⟨q, q1, q2, q3, q4, q5⟩ | ⟨q1, q5⟩
      · rcases ref with ⟨-, -, -, -, r⟩ | ⟨r, -⟩
        · rw [q5, if_neg n10, r]
          exact ⟨rfl, ⟨P, L0⟩, W, LW⟩
        · exact absurd ((mr q q2).mpr ⟨q3, q4⟩) (r q q1 q2)
      · rcases ref with ⟨q, w1, w2, w3, w4⟩ | ⟨-, b, r1, r2⟩
        · exact absurd ((mr q w2).mp w3) (q1 q w1 w2)
        · rw [q5, if_pos rfl, r2, R239x hQ r1, if_neg n3, if_neg (i_ne hx hy (by omega)), if_pos (show f180 a1 a2 a3 hr ≠ 0 by rw [f1]; exact n10)]
          by_cases f : P = 6
          · rw [if_neg (i_nlt hP k_6 (by omega)), if_neg (fun z => z (i_eq hQ k_6 (by omega)))]
            exact ⟨rfl, ⟨P, L0⟩, W, LW⟩
          · rw [if_pos (i_lt hP k_6 (by omega)), if_pos (show hr.2.1 (.inl 105) 51 ≠ 6 from i_ne hQ k_6 (by omega)), C44 hP (by omega)]
            refine ⟨?_, ⟨P + 1, rl_add hs (by omega) hP hQ h1 E (fun g g' t1 t2 t3 t4 t5 t6 t7 => ⟨t3.trans t6.symm, Or.inr ⟨t1, k, u, v, ?_, ?_, ⟨by omega, by omega, ne⟩, ?_, ?_, ?_, ?_⟩⟩)⟩, W, LW⟩
            · show hc.2.1 (.inl 60) 1 + 1 = hr.2.1 (.inl 105) 51 + 1
              rw [pq]
            · unfold rD
              rw [t2]
              exact ek
            · unfold rD
              rw [t7 (s, 0) 6]
              unfold rD at n6
              omega
            · unfold rD
              rw [t7 (s, 5) k]
              exact bq.2.2.2.1
            · unfold rD
              rw [t7 (s, 6) k]
              exact bq.2.2.2.2.1
            · unfold rD
              rw [t4]
              exact hx
            · unfold rD
              rw [t5]
              exact hy
    · rw [ek, if_neg (show ¬ (0 : Int32) ≤ -1 by decide +kernel)]
      rcases ref with ⟨q, w1, w2, w3, w4⟩ | ⟨-, b, r1, r2⟩
      · exfalso
        obtain ⟨k', z1, z2, z3, z4, K⟩ := swap q w2 w3
        have b' := (rs_k.b K).2.2.2.2.2.1
        rcases un with un | ⟨-, un⟩
        · exact z4 un
        · have Wp := w179 h1 hx hy (show s ≤ 12 by omega) (show u < 6 by omega) (show v < 6 by omega)
          rw [f180_eq, i_cl Wp, if_neg (i_nle b' k_0 (by omega))] at un
          exact n10 un
      · rw [r2, R239x hQ r1, if_neg n3]
        rcases un with un | ⟨un, z⟩
        · rw [if_pos (i_eq hx hy (by omega))]
          exact ⟨rfl, ⟨P, L0⟩, W, LW⟩
        · rw [if_neg (i_ne hx hy (by omega)), if_neg (by rw [z]; exact fun t => t rfl)]
          exact ⟨rfl, ⟨P, L0⟩, W, LW⟩
theorem rl_30 (A : rs_A hc hr S N) (hs : s < S) (Ds : rs_D hc hr N s C n F) (h1 : a1.toInt = (s : Int)) (hx : a2.toInt = (u : Int)) (hu : u < C) (b3 : a3 = -1 ∨ ∃ v, v < C ∧ a3.toInt = (v : Int)) (L0 : rl_P hc hr S P) (LW : rl_W hc hr W) {rr : Int32 × mx_H} (er : rr = if f173 a4 1 3 = 0 then (-1, hr) else (if hr.2.1 (.inl 105) 51 ≤ 0 then g239_61 a1 a2 a3 a4 0 hr else (if a1 = hr.2.1 (.inl 105) 52 then g239_61 a1 a2 a3 a4 0 hr else (-1, hr)))) : (g120_30 a1 a2 a3 a4 s hc).1 = rr.1 ∧ rt_L (g120_30 a1 a2 a3 a4 s hc).2 rr.2 S := by
  have K := g120_30_eq a1 a2 a3 a4 s hc
  rw [w_ws, g120_40_eq] at K
  obtain ⟨l1, l2, l3, l4⟩ := id L0
  by_cases c : f173 a4 1 3 = 0
  · rw [if_neg (fun z => z c)] at K
    rw [if_pos c] at er
    rw [K, er]
    exact ⟨rfl, ⟨P, L0⟩, W, LW⟩
  · rw [if_pos c] at K
    rw [if_neg c] at er
    by_cases z : P = 0
    · rw [if_pos (i_le l2 k_0 (by omega))] at K
      rw [if_pos (i_le l3 k_0 (by omega))] at er
      rw [K, er]
      exact rl_core A hs Ds h1 hx hu b3 l1 l2 l3 L0 LW (fun j hj => by omega)
    · rw [if_neg (i_nle l2 k_0 (by omega))] at K
      rw [if_neg (i_nle l3 k_0 (by omega))] at er
      obtain ⟨t, t1, t2, t3, t4⟩ := l4 (by omega)
      by_cases es : t = s
      · subst es
        rw [if_pos (i_eq t2 h1 rfl)] at K
        rw [if_pos (i_eq h1 t3 rfl)] at er
        rw [K, er]
        exact rl_core A hs Ds h1 hx hu b3 l1 l2 l3 L0 LW t4
      · rw [if_neg (i_ne t2 h1 (by omega))] at K
        rw [if_neg (i_ne h1 t3 (by omega))] at er
        rw [K, er]
        exact ⟨rfl, ⟨P, L0⟩, W, LW⟩
theorem rs_plan (A : rs_A hc hr S N) (L : rt_L hc hr S) : (f120 a1 a2 a3 a4 hc).1 = (f239 a1 a2 a3 a4 hr).1 ∧ rt_L (f120 a1 a2 a3 a4 hc).2 (f239 a1 a2 a3 a4 hr).2 S := by
  obtain ⟨⟨P, L0⟩, W, LW⟩ := id L
  obtain ⟨A1, A2, A3, A4, A5, A6, A7, A8, A9, A10⟩ := id A
  have bad := g120_40_eq hc
  have fin : f120 a1 a2 a3 a4 hc = (-1, hc) → f239 a1 a2 a3 a4 hr = (-1, hr) → (f120 a1 a2 a3 a4 hc).1 = (f239 a1 a2 a3 a4 hr).1 ∧ rt_L (f120 a1 a2 a3 a4 hc).2 (f239 a1 a2 a3 a4 hr).2 S := fun q1 q2 => by
    rw [q1, q2]
    exact ⟨rfl, L⟩
  have K := f120_eq a1 a2 a3 a4 hc
  have T := f239_eq a1 a2 a3 a4 hr
  rcases C166 (a := a1) A with ⟨s, lt, h1, e1, e1'⟩ | ⟨e1, e1'⟩
  · obtain ⟨C, n, F, Ds⟩ := (A9 s lt).2
    rw [if_neg (by rw [e1']; exact n10)] at T
    have K' : f120 a1 a2 a3 a4 hc = if f164 s a2 hc = 0 then g120_40 hc else (if a3 = -1 then g120_30 a1 a2 a3 a4 s hc else (if f164 s a3 hc = 0 then g120_40 hc else g120_30 a1 a2 a3 a4 s hc)) := by
      rw [K, e1]
      rfl
    clear K
    rcases C164 (x := a2) h1 Ds.2.2.2.1 Ds.2.2.2.2.1 Ds.2.1 with ⟨u, hu, hx, g1, g1'⟩ | ⟨g1, g1'⟩
    · rw [if_neg (by rw [g1]; exact n10)] at K'
      rw [if_neg (by rw [g1']; exact n10)] at T
      by_cases m : a3 = -1
      · rw [if_pos m] at K' T
        rw [K']
        exact rl_30 A lt Ds h1 hx hu (Or.inl m) L0 LW T
      · rw [if_neg m] at K' T
        rcases C164 (x := a3) h1 Ds.2.2.2.1 Ds.2.2.2.2.1 Ds.2.1 with ⟨v, hv, hy, g2, g2'⟩ | ⟨g2, g2'⟩
        · rw [if_neg (by rw [g2]; exact n10)] at K'
          rw [if_neg (by rw [g2']; exact n10)] at T
          rw [K']
          exact rl_30 A lt Ds h1 hx hu (Or.inr ⟨v, hv, hy⟩) L0 LW T
        · rw [if_pos g2, bad] at K'
          rw [if_pos g2'] at T
          exact fin K' T
    · rw [if_pos g1, bad] at K'
      rw [if_pos g1'] at T
      exact fin K' T
  · rw [if_pos e1'] at T
    refine fin ?_ T
    rw [K, e1]
    exact bad
/-- wishes -/
theorem C45 (hP : rD h (.inl 60) 5 = W) (P6 : W ≤ 6) : ∀ (i j : Nat) (a3 : Int32), j + i = W → a3.toInt = (j : Int) → (∃ q, j ≤ q ∧ q < W ∧ h.2.1 (.inl 64) q = x ∧ h.2.1 (.inl 65) q = y ∧ g45_2 x y a3 h = 1) ∨ ((∀ q, j ≤ q → q < W → ¬ (h.2.1 (.inl 64) q = x ∧ h.2.1 (.inl 65) q = y)) ∧ g45_2 x y a3 h = 0)
  | 0, j, a3, e, ha => Or.inr ⟨fun q l1 l2 => by omega, by rw [g45_2_eq, if_pos (i_le hP ha (by omega))]⟩
  | i + 1, j, a3, e, ha => by
    have E := g45_2_eq x y a3 h
    rw [if_neg (i_nle hP ha (by omega)), i_cl ha] at E
    have nx := C45 hP P6 i (j + 1) (a3 + 1) (by omega) ((i_add ha k_1 (by omega) (by omega)).trans (by omega))
    by_cases m : h.2.1 (.inl 64) j = x ∧ h.2.1 (.inl 65) j = y
    · rw [if_neg (fun z => z m.1), if_neg (fun z => z m.2)] at E
      exact Or.inl ⟨j, Nat.le_refl _, by omega, m.1, m.2, E⟩
    · have E' : g45_2 x y a3 h = g45_2 x y (a3 + 1) h := by
        by_cases m1 : h.2.1 (.inl 64) j = x
        · rw [if_neg (fun z => z m1), if_pos (fun z => m ⟨m1, z⟩)] at E
          exact E
        · rw [if_pos m1] at E
          exact E
      rw [E']
      rcases nx with ⟨q, q1, q2, q3, q4, q5⟩ | ⟨q1, q2⟩
      · exact Or.inl ⟨q, by omega, q2, q3, q4, q5⟩
      · refine Or.inr ⟨fun q l1 l2 => ?_, q2⟩
        by_cases ej : q = j
        · rw [ej]
          exact m
        · exact q1 q (by omega) l2
def r_wi (h : mx_H) (W : Nat) (a1 a2 a3 : Int32) : mx_H := mx_uI (mx_uI (mx_uI (mx_uI h (.inl 143) W a1) (.inl 144) W a2) (.inl 145) W a3) (.inl 105) 56 (h.2.1 (.inl 105) 56 + 1)
def k_wi (h : mx_H) (W : Nat) (a1 a2 a3 : Int32) : mx_H := mx_uI (mx_uI (mx_uI (mx_uI h (.inl 64) W a1) (.inl 65) W a2) (.inl 66) W a3) (.inl 60) 5 (h.2.1 (.inl 60) 5 + 1)
theorem R240 (hP : rD h (.inl 105) 56 = W) (P6 : W ≤ 6) : ∀ (i j : Nat) (a4 : Int32), j + i = W → a4.toInt = (j : Int) → (∃ q, j ≤ q ∧ q < W ∧ h.2.1 (.inl 143) q = a1 ∧ h.2.1 (.inl 144) q = a2 ∧ g240_86 a1 a2 a3 a4 h = (-1, h)) ∨ ((∀ q, j ≤ q → q < W → ¬ (h.2.1 (.inl 143) q = a1 ∧ h.2.1 (.inl 144) q = a2)) ∧ g240_86 a1 a2 a3 a4 h = if h.2.1 (.inl 105) 56 ≠ 6 then (h.2.1 (.inl 105) 56 + 1, r_wi h W a1 a2 a3) else (-3, h))
  | 0, j, a4, e, ha => Or.inr ⟨fun q l1 l2 => by omega, by
      rw [g240_86_eq, if_pos (i_le hP ha (by omega))]
      have e : r_wi h W a1 a2 a3 = r_wi h (Int32.toNatClampNeg (h.2.1 (.inl 105) 56)) a1 a2 a3 := by rw [i_cl hP]
      rw [e]
      rfl⟩
  | i + 1, j, a4, e, ha => by
    have E := g240_86_eq a1 a2 a3 a4 h
    rw [if_neg (i_nle hP ha (by omega)), i_cl ha] at E
    have nx := R240 hP P6 i (j + 1) (a4 + 1) (by omega) ((i_add ha k_1 (by omega) (by omega)).trans (by omega))
    by_cases m : h.2.1 (.inl 143) j = a1 ∧ h.2.1 (.inl 144) j = a2
    · rw [if_neg (fun z => z m.1), if_neg (fun z => z m.2)] at E
      exact Or.inl ⟨j, Nat.le_refl _, by omega, m.1, m.2, E⟩
    · have E' : g240_86 a1 a2 a3 a4 h = g240_86 a1 a2 a3 (a4 + 1) h := by
        by_cases m1 : h.2.1 (.inl 143) j = a1
        · rw [if_neg (fun z => z m1), if_pos (fun z => m ⟨m1, z⟩)] at E
          exact E
        · rw [if_pos m1] at E
          exact E
      rw [E']
      rcases nx with ⟨q, q1, q2, q3, q4, q5⟩ | ⟨q1, q2⟩
      · exact Or.inl ⟨q, by omega, q2, q3, q4, q5⟩
      · refine Or.inr ⟨fun q l1 l2 => ?_, q2⟩
        by_cases ej : q = j
        · rw [ej]
          exact m
        · exact q1 q (by omega) l2
/-- tones are six at most -/
theorem C60b (C6 : C ≤ 6) (kc : rD h (.inr (s, 0)) 0 = C) : ∀ (j c m : Nat) (x y : Int32), c + j = C → m ≤ c → y.toInt = (c : Int) → x.toInt = (m : Int) → ∃ m', m' ≤ C ∧ (g60_4 s x y h).toInt = (m' : Int)
  | 0, c, m, x, y, e, hm, hy, hx => ⟨m, by omega, by rw [g60_4_eq, if_pos (i_le kc hy (by omega))]; exact hx⟩
  | j + 1, c, m, x, y, e, hm, hy, hx => by
    have hy1 : (y + 1).toInt = ((c + 1 : Nat) : Int) := (i_add hy k_1 (by omega) (by omega)).trans (by omega)
    rw [g60_4_eq, if_neg (i_nle kc hy (by omega))]
    split
    · exact C60b C6 kc j (c + 1) m x (y + 1) (by omega) (by omega) hy1 hx
    · exact C60b C6 kc j (c + 1) (m + 1) (x + 1) (y + 1) (by omega) (by omega) hy1 ((i_add hx k_1 (by omega) (by omega)).trans (by omega))
theorem rl_wish (L0 : rl_P hc hr S P) (LW : rl_W hc hr W) {rc rr : Int32 × mx_H} (K : rc = if f45 a1 a2 hc = 0 then (if hc.2.1 (.inl 60) 5 < 6 then ((f46 a1 a2 a3 hc).2.1 (.inl 60) 5, f46 a1 a2 a3 hc) else (-3, hc)) else (-1, hc)) (T : rr = g240_86 a1 a2 a3 0 hr) : rc.1 = rr.1 ∧ rt_L rc.2 rr.2 S := by
  obtain ⟨w1, w2, w3, w4⟩ := id LW
  rw [f45_eq] at K
  rcases C45 (x := a1) (y := a2) w2 w1 W 0 0 (by omega) rfl with ⟨q, q1, q2, q3, q4, q5⟩ | ⟨q1, q5⟩
  · rcases R240 (a1 := a1) (a2 := a2) (a3 := a3) w3 w1 W 0 0 (by omega) rfl with ⟨-, -, -, -, -, r⟩ | ⟨r, -⟩
    · rw [q5, if_neg n10] at K
      rw [K, T, r]
      exact ⟨rfl, ⟨P, L0⟩, W, LW⟩
    · exfalso
      obtain ⟨e1, e2, e3⟩ := w4 q q2
      exact r q q1 q2 ⟨e1.symm.trans q3, e2.symm.trans q4⟩
  · rcases R240 (a1 := a1) (a2 := a2) (a3 := a3) w3 w1 W 0 0 (by omega) rfl with ⟨q, r1, r2, r3, r4, r⟩ | ⟨-, r⟩
    · exfalso
      obtain ⟨e1, e2, e3⟩ := w4 q r2
      exact q1 q r1 r2 ⟨e1.trans r3, e2.trans r4⟩
    · rw [q5, if_pos rfl] at K
      rw [r] at T
      by_cases f : W = 6
      · rw [if_neg (i_nlt w2 k_6 (by omega))] at K
        rw [if_neg (fun z => z (i_eq w3 k_6 (by omega)))] at T
        rw [K, T]
        exact ⟨rfl, ⟨P, L0⟩, W, LW⟩
      · have C46 : f46 a1 a2 a3 hc = k_wi hc W a1 a2 a3 := by
          have e : k_wi hc W a1 a2 a3 = k_wi hc (Int32.toNatClampNeg (hc.2.1 (.inl 60) 5)) a1 a2 a3 := by rw [i_cl w2]
          rw [f46_eq, if_pos (i_lt w2 k_6 (by omega)), e]
          rfl
        rw [if_pos (i_lt w2 k_6 (by omega)), C46] at K
        rw [if_pos (show hr.2.1 (.inl 105) 56 ≠ 6 from i_ne w3 k_6 (by omega))] at T
        rw [K, T]
        have c1 : ∀ i, (k_wi hc W a1 a2 a3).2.1 (.inl 64) i = if i = W then a1 else hc.2.1 (.inl 64) i := fun i => (show (mx_uI hc (.inl 64) W a1).2.1 (.inl 64) i = _ from sh_i)
        have c2 : ∀ i, (k_wi hc W a1 a2 a3).2.1 (.inl 65) i = if i = W then a2 else hc.2.1 (.inl 65) i := fun i => (show (mx_uI (mx_uI hc (.inl 64) W a1) (.inl 65) W a2).2.1 (.inl 65) i = _ from sh_i)
        have c3 : ∀ i, (k_wi hc W a1 a2 a3).2.1 (.inl 66) i = if i = W then a3 else hc.2.1 (.inl 66) i := fun i => (show (mx_uI (mx_uI (mx_uI hc (.inl 64) W a1) (.inl 65) W a2) (.inl 66) W a3).2.1 (.inl 66) i = _ from sh_i)
        have d1 : ∀ i, (r_wi hr W a1 a2 a3).2.1 (.inl 143) i = if i = W then a1 else hr.2.1 (.inl 143) i := fun i => (show (mx_uI hr (.inl 143) W a1).2.1 (.inl 143) i = _ from sh_i)
        have d2 : ∀ i, (r_wi hr W a1 a2 a3).2.1 (.inl 144) i = if i = W then a2 else hr.2.1 (.inl 144) i := fun i => (show (mx_uI (mx_uI hr (.inl 143) W a1) (.inl 144) W a2).2.1 (.inl 144) i = _ from sh_i)
        have d3 : ∀ i, (r_wi hr W a1 a2 a3).2.1 (.inl 145) i = if i = W then a3 else hr.2.1 (.inl 145) i := fun i => (show (mx_uI (mx_uI (mx_uI hr (.inl 143) W a1) (.inl 144) W a2) (.inl 145) W a3).2.1 (.inl 145) i = _ from sh_i)
        refine ⟨?_, ⟨P, L0⟩, W + 1, by omega, ?_, ?_, fun j hj => ?_⟩
        · show hc.2.1 (.inl 60) 5 + 1 = hr.2.1 (.inl 105) 56 + 1
          rw [i_eq w2 w3 rfl]
        · show (hc.2.1 (.inl 60) 5 + 1).toInt = _
          exact (i_add w2 k_1 (by omega) (by omega)).trans (by omega)
        · show (hr.2.1 (.inl 105) 56 + 1).toInt = _
          exact (i_add w3 k_1 (by omega) (by omega)).trans (by omega)
        · show (k_wi hc W a1 a2 a3).2.1 (.inl 64) j = (r_wi hr W a1 a2 a3).2.1 (.inl 143) j ∧ (k_wi hc W a1 a2 a3).2.1 (.inl 65) j = (r_wi hr W a1 a2 a3).2.1 (.inl 144) j ∧ (k_wi hc W a1 a2 a3).2.1 (.inl 66) j = (r_wi hr W a1 a2 a3).2.1 (.inl 145) j
          rw [c1, c2, c3, d1, d2, d3]
          by_cases e : j = W
          · rw [if_pos e, if_pos e, if_pos e, if_pos e, if_pos e, if_pos e]
            exact ⟨rfl, rfl, rfl⟩
          · rw [if_neg e, if_neg e, if_neg e, if_neg e, if_neg e, if_neg e]
            exact w4 j (by omega)
theorem rs_wish (A : rs_A hc hr S N) (L : rt_L hc hr S) : (f121 a1 a2 a3 hc).1 = (f240 a1 a2 a3 hr).1 ∧ rt_L (f121 a1 a2 a3 hc).2 (f240 a1 a2 a3 hr).2 S := by
  obtain ⟨⟨P, L0⟩, W, LW⟩ := id L
  obtain ⟨l1, l2, l3, l4⟩ := id L0
  obtain ⟨A1, A2, A3, A4, A5, A6, A7, A8, A9, A10⟩ := id A
  have fin : ∀ {x : Int32}, f121 a1 a2 a3 hc = (x, hc) → f240 a1 a2 a3 hr = (x, hr) → (f121 a1 a2 a3 hc).1 = (f240 a1 a2 a3 hr).1 ∧ rt_L (f121 a1 a2 a3 hc).2 (f240 a1 a2 a3 hr).2 S := fun q1 q2 => by
    rw [q1, q2]
    exact ⟨rfl, L⟩
  have K := f121_eq a1 a2 a3 hc
  have T := f240_eq a1 a2 a3 hr
  rw [w_ws, w_ws, w_ws] at K
  by_cases z : P = 0
  · have no : f167 hc = none := by rw [f167_eq, if_pos (i_le l2 k_0 (by omega))]
    rw [if_neg (fun t => t (i_eq l3 k_0 (by omega)))] at T
    rw [no] at K
    by_cases c1 : f173 a1 0 5 = 0
    · rw [if_pos c1] at K T
      exact fin K T
    · rw [if_neg c1] at K T
      by_cases c2 : f173 a2 1 9 = 0
      · rw [if_pos c2] at K T
        exact fin K T
      · rw [if_neg c2] at K T
        by_cases c3 : f173 a3 0 99 = 0
        · rw [if_neg (fun t => t c3)] at K
          rw [if_pos c3] at T
          exact fin K T
        · rw [if_pos c3] at K
          rw [if_neg c3] at T
          exact fin K T
  · obtain ⟨s, t1, t2, t3, t4⟩ := l4 (by omega)
    obtain ⟨C, n, F, Ds⟩ := (A9 s t1).2
    have C6 := Ds.2.1
    have pl : f167 hc = some s := by
      rw [f167_eq, if_neg (i_nle l2 k_0 (by omega))]
      rcases C166 (a := hc.2.1 (.inl 60) 0) A with ⟨s', lt, h1, e1, -⟩ | ⟨-, e1'⟩
      · unfold rD at t2
        rw [e1, show s' = s by omega]
        rfl
      · exfalso
        rw [f177_eq, w173_1 t2 k_0 (i_sub A4 k_1 (by omega) (by omega)) (by omega)] at e1'
        exact n10 e1'
    have tn : f60 s hc = f195 (hr.2.1 (.inl 105) 52) hr := aw_tones Ds (by omega) t3
    obtain ⟨m, m1, m2⟩ := C60b C6 Ds.2.2.2.1 C 0 0 0 0 (by omega) (by omega) rfl rfl
    rw [← f60_eq] at m2
    rw [if_pos (show hr.2.1 (.inl 105) 51 ≠ 0 from i_ne l3 k_0 (by omega)), ← tn] at T
    rw [pl] at K
    have K' : f121 a1 a2 a3 hc = if f173 a1 0 5 = 0 then (-1, hc) else (if f173 a2 1 9 = 0 then (-1, hc) else (if f173 a3 0 99 ≠ 0 then (if f60 s hc ≤ a1 then (-1, hc) else (if f45 a1 a2 hc = 0 then (if hc.2.1 (.inl 60) 5 < 6 then ((f46 a1 a2 a3 hc).2.1 (.inl 60) 5, f46 a1 a2 a3 hc) else (-3, hc)) else (-1, hc))) else (-1, hc))) := K
    clear K
    have sm := i_sub m2 k_1 (by omega) (by omega)
    by_cases c1 : 0 ≤ a1.toInt ∧ a1.toInt ≤ (m : Int) - 1
    · rw [if_neg (by rw [w173_1 rfl k_0 k_5 (by omega)]; exact n10)] at K'
      rw [if_neg (by rw [w173_1 rfl k_0 sm c1]; exact n10)] at T
      by_cases c2 : f173 a2 1 9 = 0
      · rw [if_pos c2] at K' T
        exact fin K' T
      · rw [if_neg c2] at K' T
        by_cases c3 : f173 a3 0 99 ≠ 0
        · rw [if_pos c3] at K' T
          rw [if_neg (i_nle m2 rfl (by omega))] at K'
          exact rl_wish L0 LW K' T
        · rw [if_neg c3] at K' T
          exact fin K' T
    · rw [if_pos (w173_0 rfl k_0 sm c1)] at T
      refine fin ?_ T
      by_cases d1 : f173 a1 0 5 = 0
      · rw [K', if_pos d1]
      · rw [if_neg d1] at K'
        by_cases c2 : f173 a2 1 9 = 0
        · rw [K', if_pos c2]
        · rw [if_neg c2] at K'
          by_cases c3 : f173 a3 0 99 ≠ 0
          · have b5 : 0 ≤ a1.toInt ∧ a1.toInt ≤ 5 := Classical.byContradiction fun q => d1 (w173_0 rfl k_0 k_5 q)
            rw [K', if_pos c3, if_pos (i_le m2 rfl (by omega))]
          · rw [K', if_neg c3]
theorem rs_forget (L : rt_L hc hr S) : (f124 hc).1 = (f247 hr).1 ∧ rt_L (f124 hc).2 (f247 hr).2 S := by
  obtain ⟨⟨P, l1, l2, l3, l4⟩, -⟩ := L
  rw [f124_eq, f247_eq]
  exact ⟨i_eq l2 l3 rfl, ⟨0, by omega, rfl, rfl, fun z => absurd z (Nat.lt_irrefl 0)⟩, 0, by omega, rfl, rfl, fun j hj => absurd hj (Nat.not_lt_zero _)⟩
end RTI
