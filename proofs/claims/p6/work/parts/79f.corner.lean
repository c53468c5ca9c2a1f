/-! ===== corners of a shape copied into the draft ===== -/
section RX
variable {h g hc hr : mx_H} {S N n C M k s1 s o C1 c d : Nat} {a1 a2 a3 a4 : Int32}
theorem rP {o' i : Nat} {v : Int32} (ho : o ≠ o') : (mx_uI h (.inr (S, o')) i v).2.1 (.inr (s, o)) = h.2.1 (.inr (s, o)) := funext fun _ => rI_a (fun e => by
  cases e
  exact ho rfl)
def k_cc (h : mx_H) (S s1 d c : Nat) : mx_H := mx_uI (mx_uI (mx_uI (mx_uI (mx_uI h (.inr (S, 1)) d (h.2.1 (.inr (s1, 1)) c)) (.inr (S, 2)) d (h.2.1 (.inr (s1, 2)) c)) (.inr (S, 3)) d (h.2.1 (.inr (s1, 3)) c)) (.inr (S, 4)) d (h.2.1 (.inr (s1, 4)) c)) (.inr (S, 0)) 0 (h.2.1 (.inr (S, 0)) 0 + 1)
theorem C64c (hC : rD h (.inr (s1, 0)) 0 = C1) (hd : rD h (.inr (S, 0)) 0 = d) (d6 : d < 6) (ha : a3.toInt = (c : Int)) (hc1 : c < C1) : g64_7 S s1 a2 a3 h = g64_7 S s1 a2 (a3 + 1) (k_cc h S s1 d c) := by
  rw [g64_7_eq, if_neg (i_nle hC ha (by omega)), if_neg (i_nle k_6 hd (by omega))]
  simp only [rP (o := 0) (o' := 1) (by decide), rP (o := 0) (o' := 2) (by decide), rP (o := 0) (o' := 3) (by decide), rP (o := 0) (o' := 4) (by decide), rP (o := 2) (o' := 1) (by decide), rP (o := 3) (o' := 1) (by decide), rP (o := 3) (o' := 2) (by decide), rP (o := 4) (o' := 1) (by decide), rP (o := 4) (o' := 2) (by decide), rP (o := 4) (o' := 3) (by decide)]
  rw [i_cl hd, i_cl ha]
  rfl
/-- c corners of s1 stand from corner o on -/
def kc_F (h g : mx_H) (S s1 o c : Nat) : Prop := g.1 = h.1 ∧ g.2.2 = h.2.2 ∧ (∀ q i, g.2.1 (.inl q) i = h.2.1 (.inl q) i) ∧ (∀ s x i, ¬ (s = S ∧ x ≤ 4 ∧ (x = 0 → i = 0)) → g.2.1 (.inr (s, x)) i = h.2.1 (.inr (s, x)) i) ∧ rD g (.inr (S, 0)) 0 = ((o + c : Nat) : Int) ∧
  (∀ x i, 1 ≤ x → x ≤ 4 → i < o → g.2.1 (.inr (S, x)) i = h.2.1 (.inr (S, x)) i) ∧ ∀ x i, 1 ≤ x → x ≤ 4 → i < c → g.2.1 (.inr (S, x)) (o + i) = h.2.1 (.inr (s1, x)) i
theorem k_cc_r {x i : Nat} (h1 : 1 ≤ x) (h4 : x ≤ 4) : (k_cc h S s1 d c).2.1 (.inr (S, x)) i = if i = d then h.2.1 (.inr (s1, x)) c else h.2.1 (.inr (S, x)) i := by
  unfold k_cc
  rw [rP (by omega)]
  by_cases e : i = d
  · rw [if_pos e]
    rcases (show x = 1 ∨ x = 2 ∨ x = 3 ∨ x = 4 by omega) with t | t | t | t
    · subst t
      rw [rP (by decide), rP (by decide), rP (by decide), rI_c rfl e]
    · subst t
      rw [rP (by decide), rP (by decide), rI_c rfl e]
    · subst t
      rw [rP (by decide), rI_c rfl e]
    · subst t
      rw [rI_c rfl e]
  · rw [if_neg e, rI_i e, rI_i e, rI_i e, rI_i e]
theorem k_cc_o {x i : Nat} (q : ¬ (s = S ∧ x ≤ 4 ∧ (x = 0 → i = 0))) : (k_cc h S s1 d c).2.1 (.inr (s, x)) i = h.2.1 (.inr (s, x)) i := by
  have ne : ∀ o' : Nat, 1 ≤ o' → o' ≤ 4 → (Sum.inr (s, x) : mx_A) ≠ .inr (S, o') := fun o' w1 w2 e => by
    cases e
    exact q ⟨rfl, w2, fun t => by omega⟩
  unfold k_cc
  rw [show ∀ (H : mx_H) (v : Int32), (mx_uI H (.inr (S, 0)) 0 v).2.1 (.inr (s, x)) i = H.2.1 (.inr (s, x)) i from fun H v => if_neg (fun e => by
    have e1 := e.1
    have e2 := e.2
    cases e1
    exact q ⟨rfl, by decide, fun _ => e2⟩), rI_a (ne 4 (by decide) (by decide)), rI_a (ne 3 (by decide) (by decide)), rI_a (ne 2 (by decide) (by decide)), rI_a (ne 1 (by decide) (by decide))]
theorem C64l (ne : s1 ≠ S) (hC : rD h (.inr (s1, 0)) 0 = C1) (oC : o + C1 ≤ 6) : ∀ (j c : Nat) (a3 : Int32) {g : mx_H}, c + j = C1 → a3.toInt = (c : Int) → kc_F h g S s1 o c → ∃ g', g64_7 S s1 a2 a3 g = g64_102 S s1 a2 0 g' ∧ kc_F h g' S s1 o C1
  | 0, c, a3, g, e, ha, F => by
    have hg : rD g (.inr (s1, 0)) 0 = C1 := by
      unfold rD
      rw [F.2.2.2.1 s1 0 0 (fun t => ne t.1)]
      exact hC
    refine ⟨g, ?_, (show c = C1 by omega) ▸ F⟩
    rw [g64_7_eq, if_pos (i_le hg ha (by omega))]
  | j + 1, c, a3, g, e, ha, F => by
    obtain ⟨f1, f2, f3, f4, f5, f6, f7⟩ := F
    have hg : rD g (.inr (s1, 0)) 0 = C1 := by
      unfold rD
      rw [f4 s1 0 0 (fun t => ne t.1)]
      exact hC
    rw [C64c (d := o + c) hg f5 (by omega) ha (by omega)]
    refine C64l ne hC oC j (c + 1) (a3 + 1) (by omega) ((i_add ha k_1 (by omega) (by omega)).trans (by omega)) ⟨f1, f2, f3, fun s x i q => (k_cc_o q).trans (f4 s x i q), ?_, fun x i w1 w2 hi => ?_, fun x i w1 w2 hi => ?_⟩
    · unfold rD k_cc
      rw [rI_s]
      exact (i_add f5 k_1 (by omega) (by omega)).trans (by omega)
    · rw [k_cc_r w1 w2, if_neg (by omega)]
      exact f6 x i w1 w2 hi
    · rw [k_cc_r w1 w2]
      by_cases t : i = c
      · rw [if_pos (by omega), t]
        exact f4 s1 x c (fun q => ne q.1)
      · rw [if_neg (by omega)]
        exact f7 x i w1 w2 (by omega)
/-! the reference's corners -/
def r_cc (h : mx_H) (d c : Nat) : mx_H := mx_uI (mx_uI (mx_uI (mx_uI h (.inl 107) d (h.2.1 (.inl 107) c)) (.inl 108) d (h.2.1 (.inl 108) c)) (.inl 109) d (h.2.1 (.inl 109) c)) (.inl 110) d (vp_nar .boolean (h.2.1 (.inl 110) c))
theorem R279c (h1 : a1.toInt = (s1 : Int)) (h2 : a2.toInt = (S : Int)) (h3 : a3.toInt = (o : Int)) (h4 : a4.toInt = (c : Int)) (hC : rD h (.inl 106) s1 = C1) (hc1 : c < C1) (oC : o + C1 ≤ 6) (S12 : S ≤ 12) (s12 : s1 ≤ 12) : g279_3 a1 a2 a3 a4 h = g279_3 a1 a2 a3 (a4 + 1) (r_cc h (6 * S + o + c) (6 * s1 + c)) := by
  have e1 := w6 h2 h3 S12 (show o < 6 by omega)
  have e2 : (6 * a2 + a3 + a4).toInt = ((6 * S + o + c : Nat) : Int) := (i_add e1 h4 (by omega) (by omega)).trans (by omega)
  have e3 := w6 h1 h4 s12 (show c < 6 by omega)
  rw [g279_3_eq, i_cl h1, if_neg (i_nle hC h4 (by omega)), i_cl e2, i_cl e3]
  rfl
def rc_F (h g : mx_H) (S s1 o c : Nat) : Prop := g.1 = h.1 ∧ g.2.2 = h.2.2 ∧ (∀ q i, g.2.1 (.inr q) i = h.2.1 (.inr q) i) ∧ (∀ q i, ¬ (107 ≤ q ∧ q ≤ 110 ∧ 6 * S + o ≤ i ∧ i < 6 * S + 6) → g.2.1 (.inl q) i = h.2.1 (.inl q) i) ∧ ∀ q i, 107 ≤ q → q ≤ 110 → i < c → g.2.1 (.inl q) (6 * S + o + i) = h.2.1 (.inl q) (6 * s1 + i)
theorem nar01 {x : Int32} (hx : x = 0 ∨ x = 1) : vp_nar .boolean x = x := by
  rcases hx with e | e
  · rw [e]
    rfl
  · rw [e]
    rfl
theorem r_cc_r {q i : Nat} (h1 : 107 ≤ q) (h2 : q ≤ 110) (hb : h.2.1 (.inl 110) c = 0 ∨ h.2.1 (.inl 110) c = 1) : (r_cc h d c).2.1 (.inl q) i = if i = d then h.2.1 (.inl q) c else h.2.1 (.inl q) i := by
  unfold r_cc
  rw [nar01 hb]
  by_cases e : i = d
  · rw [if_pos e]
    rcases (show q = 107 ∨ q = 108 ∨ q = 109 ∨ q = 110 by omega) with t | t | t | t
    · subst t
      rw [rN (by decide), rN (by decide), rN (by decide), rI_c rfl e]
    · subst t
      rw [rN (by decide), rN (by decide), rI_c rfl e]
    · subst t
      rw [rN (by decide), rI_c rfl e]
    · subst t
      rw [rI_c rfl e]
  · rw [if_neg e, rI_i e, rI_i e, rI_i e, rI_i e]
theorem r_cc_o {q i : Nat} (t : ¬ (107 ≤ q ∧ q ≤ 110)) : (r_cc h d c).2.1 (.inl q) i = h.2.1 (.inl q) i := by
  unfold r_cc
  rw [rN (by omega), rN (by omega), rN (by omega), rN (by omega)]
theorem R279l (lt : s1 < S) (S12 : S ≤ 12) (h1 : a1.toInt = (s1 : Int)) (h2 : a2.toInt = (S : Int)) (h3 : a3.toInt = (o : Int)) (hC : rD h (.inl 106) s1 = C1) (oC : o + C1 ≤ 6) (hb : ∀ i, i < C1 → h.2.1 (.inl 110) (6 * s1 + i) = 0 ∨ h.2.1 (.inl 110) (6 * s1 + i) = 1) : ∀ (j c : Nat) (a4 : Int32) {g : mx_H}, c + j = C1 → a4.toInt = (c : Int) → rc_F h g S s1 o c → rc_F h (g279_3 a1 a2 a3 a4 g) S s1 o C1
  | 0, c, a4, g, e, ha, F => by
    have hg : rD g (.inl 106) s1 = C1 := by
      unfold rD
      rw [F.2.2.2.1 106 s1 (by omega)]
      exact hC
    rw [g279_3_eq, i_cl h1, if_pos (i_le hg ha (by omega))]
    exact (show c = C1 by omega) ▸ F
  | j + 1, c, a4, g, e, ha, F => by
    obtain ⟨f1, f2, f3, f4, f5⟩ := F
    have hg : rD g (.inl 106) s1 = C1 := by
      unfold rD
      rw [f4 106 s1 (by omega)]
      exact hC
    have bb : g.2.1 (.inl 110) (6 * s1 + c) = 0 ∨ g.2.1 (.inl 110) (6 * s1 + c) = 1 := by
      rw [f4 110 (6 * s1 + c) (by omega)]
      exact hb c (by omega)
    rw [R279c h1 h2 h3 ha hg (by omega) oC S12 (by omega)]
    refine R279l lt S12 h1 h2 h3 hC oC hb j (c + 1) (a4 + 1) (by omega) ((i_add ha k_1 (by omega) (by omega)).trans (by omega)) ⟨f1, f2, f3, fun q i t => ?_, fun q i w1 w2 hi => ?_⟩
    · by_cases w : 107 ≤ q ∧ q ≤ 110
      · rw [r_cc_r w.1 w.2 bb, if_neg (by omega)]
        exact f4 q i t
      · rw [r_cc_o w]
        exact f4 q i t
    · rw [r_cc_r w1 w2 bb]
      by_cases t : i = c
      · rw [if_pos (by omega), t]
        exact f4 q (6 * s1 + c) (by omega)
      · rw [if_neg (by omega)]
        exact f5 q i w1 w2 (by omega)
end RX
