/-! ===== a text, from its first sign ===== -/
section RY
variable {hc hr h : mx_H} {L p S C n k : Nat}
/-- a row filled -/
def k_f (h : mx_H) (a : mx_A) (n : Nat) (v : Int32) : mx_H := (h.1, fun b j => if b = a ∧ j < n then v else h.2.1 b j, h.2.2)
theorem k_fr {a b : mx_A} {j : Nat} {v : Int32} : (k_f h a n v).2.1 b j = if b = a ∧ j < n then v else h.2.1 b j := rfl
theorem k_f0 {a : mx_A} {v : Int32} : k_f h a 0 v = h := by
  refine Prod.ext rfl (Prod.ext (funext fun b => funext fun j => ?_) rfl)
  exact if_neg (fun q => Nat.not_lt_zero _ q.2)
theorem k_f1 {a : mx_A} {v : Int32} : mx_uI (k_f h a n v) a n v = k_f h a (n + 1) v := by
  refine Prod.ext rfl (Prod.ext (funext fun b => funext fun j => ?_) rfl)
  show (if b = a ∧ j = n then v else if b = a ∧ j < n then v else h.2.1 b j) = if b = a ∧ j < n + 1 then v else h.2.1 b j
  by_cases e1 : b = a
  · by_cases e2 : j = n
    · rw [if_pos ⟨e1, e2⟩, if_pos ⟨e1, by omega⟩]
    · rw [if_neg (fun q => e2 q.2)]
      by_cases e3 : j < n
      · rw [if_pos ⟨e1, e3⟩, if_pos ⟨e1, by omega⟩]
      · rw [if_neg (fun q => e3 q.2), if_neg (fun q => by omega)]
  · rw [if_neg (fun q => e1 q.1), if_neg (fun q => e1 q.1), if_neg (fun q => e1 q.1)]
theorem k317g {a : mx_A} {v y : Int32} (hy : y.toInt = (n : Int)) (hn : n < 1000) : ∀ (j i : Nat) (x : Int32), i + j = n → x.toInt = (i : Int) → g317_5 a v x y (k_f h a i v) = k_f h a n v
  | 0, i, x, e, hx => by
    have e' : i = n := by omega
    subst e'
    rw [g317_5_eq, if_pos (i_le hy hx (by omega))]
  | j + 1, i, x, e, hx => by
    rw [g317_5_eq, if_neg (i_nle hy hx (by omega)), i_cl hx, k_f1]
    exact k317g hy hn j (i + 1) (x + 1) (by omega) (by rw [i_add hx k_1 (by omega) (by omega)]; omega)
theorem k317 {a : mx_A} {v : Int32} (hl : (mx_lo a).2 = n) (hn : n < 1000) : f317 a v h = k_f h a n v := by
  rw [f317_eq, hl]
  have := k317g (h := h) (a := a) (v := v) (y := Int32.ofNat n) (nI_toInt (by omega)) hn n 0 0 (by omega) rfl
  rw [k_f0] at this
  exact this
theorem k_fF {h0 : mx_H} {o : Nat} {v : Int32} (ho : o < 9) (a : rz_FW S h0 h) : rz_FW S h0 (k_f h (.inr (S, o)) n v) := ⟨a.1, a.2.1, fun k j q => (show (k_f h (.inr (S, o)) n v).2.1 (.inl k) j = h.2.1 (.inl k) j from rfl).trans (a.2.2.1 k j q), fun s o' j q => (if_neg (fun e => by
  obtain ⟨e1, -⟩ := e
  cases e1
  exact q ⟨rfl, ho⟩)).trans (a.2.2.2 s o' j q)⟩
theorem k_fo {o o' i : Nat} {v : Int32} (ho : o ≠ o') : (k_f h (.inr (S, o')) n v).2.1 (.inr (S, o)) i = h.2.1 (.inr (S, o)) i := if_neg (fun q => ne_oo ho q.1)
theorem k_fs {o i : Nat} {v : Int32} (hi : i < n) : (k_f h (.inr (S, o)) n v).2.1 (.inr (S, o)) i = v := if_pos ⟨rfl, hi⟩
/-- the class's draft is cleared -/
theorem C59 (S : Nat) (h : mx_H) : f59 S h = mx_uI (mx_uI (k_f (k_f (k_f (mx_uI (mx_uI h (.inr (S, 0)) 0 0) (.inr (S, 0)) 6 0) (.inr (S, 2)) 6 0) (.inr (S, 3)) 6 0) (.inr (S, 4)) 6 0) (.inr (S, 0)) 11 (-1)) (.inr (S, 0)) 12 (-1) := by
  rw [f59_eq]
  show mx_uI (mx_uI (f317 (.inr (S, 4)) 0 (f317 (.inr (S, 3)) 0 (f317 (.inr (S, 2)) 0 (mx_uI (mx_uI h (.inr (S, 0)) 0 0) (.inr (S, 0)) 6 0)))) (.inr (S, 0)) 11 (-1)) (.inr (S, 0)) 12 (-1) = _
  rw [k317 (n := 6) rfl (by decide +kernel), k317 (n := 6) rfl (by decide +kernel), k317 (n := 6) rfl (by decide +kernel)]
theorem C59s (S : Nat) (h : mx_H) : rz_FW S h (f59 S h) ∧ (f59 S h).2.1 (.inr (S, 0)) 0 = 0 ∧ (f59 S h).2.1 (.inr (S, 0)) 6 = 0 ∧ (f59 S h).2.1 (.inr (S, 0)) 11 = -1 ∧ (f59 S h).2.1 (.inr (S, 0)) 12 = -1 ∧ ∀ c, c < 6 → (f59 S h).2.1 (.inr (S, 2)) c = 0 ∧ (f59 S h).2.1 (.inr (S, 3)) c = 0 ∧ (f59 S h).2.1 (.inr (S, 4)) c = 0 := by
  rw [C59]
  refine ⟨((k_fF (by decide +kernel) (k_fF (by decide +kernel) (k_fF (by decide +kernel) ((rz_FW.refl.s (by decide +kernel)).s (by decide +kernel))))).s (by decide +kernel)).s (by decide +kernel), ?_, ?_, ?_, ?_, fun c q => ⟨?_, ?_, ?_⟩⟩
  · rw [rI_i (by decide +kernel), rI_i (by decide +kernel), k_fo (by decide +kernel), k_fo (by decide +kernel), k_fo (by decide +kernel), rI_i (by decide +kernel), rI_s]
  · rw [rI_i (by decide +kernel), rI_i (by decide +kernel), k_fo (by decide +kernel), k_fo (by decide +kernel), k_fo (by decide +kernel), rI_s]
  · rw [rI_i (by decide +kernel), rI_s]
  · rw [rI_s]
  · rw [rS (by decide +kernel), rS (by decide +kernel), k_fo (by decide +kernel), k_fo (by decide +kernel), k_fs q]
  · rw [rS (by decide +kernel), rS (by decide +kernel), k_fo (by decide +kernel), k_fs q]
  · rw [rS (by decide +kernel), rS (by decide +kernel), k_fs q]
/-- the reference's draft is cleared -/
theorem R182a {s : Int32} (hs : s.toInt = (S : Int)) (S11 : S ≤ 12) : ∀ (j c : Nat) (x : Int32) {h0 g : mx_H}, c + j = 6 → x.toInt = (c : Int) → rz_FR S h0 g → (∀ i, g.2.1 (.inl 105) i = h0.2.1 (.inl 105) i) → g.2.1 (.inl 106) S = 0 → (∀ i, i < c → g.2.1 (.inl 107) (6 * S + i) = 0 ∧ g.2.1 (.inl 108) (6 * S + i) = 0 ∧ g.2.1 (.inl 109) (6 * S + i) = 0 ∧ g.2.1 (.inl 110) (6 * S + i) = 0) →
    ∃ g', g182_9 s x g = g182_74 s (36 * s) g' ∧ rz_FR S h0 g' ∧ (∀ i, g'.2.1 (.inl 105) i = h0.2.1 (.inl 105) i) ∧ g'.2.1 (.inl 106) S = 0 ∧ (∀ i, i < 6 → g'.2.1 (.inl 107) (6 * S + i) = 0 ∧ g'.2.1 (.inl 108) (6 * S + i) = 0 ∧ g'.2.1 (.inl 109) (6 * S + i) = 0 ∧ g'.2.1 (.inl 110) (6 * S + i) = 0)
  | 0, c, x, h0, g, e, hx, F, U, z, Z => by
    refine ⟨g, ?_, F, U, z, fun i hi => Z i (by omega)⟩
    rw [g182_9_eq, if_pos (i_le k_6 hx (by omega))]
  | j + 1, c, x, h0, g, e, hx, F, U, z, Z => by
    have w := w6 hs hx (by omega) (show c < 6 by omega)
    rw [g182_9_eq, if_neg (i_nle k_6 hx (by omega)), i_cl w]
    refine R182a hs S11 j (c + 1) (x + 1) (by omega) (by rw [i_add hx k_1 (by omega) (by omega)]; omega) ?_ U z (fun i hi => ?_)
    · exact (((F.u (by unfold rz_w; omega)).u (by unfold rz_w; omega)).u (by unfold rz_w; omega)).u (by unfold rz_w; omega)
    · show (mx_uI g (.inl 107) (6 * S + c) 0).2.1 (.inl 107) (6 * S + i) = 0 ∧ (mx_uI g (.inl 108) (6 * S + c) 0).2.1 (.inl 108) (6 * S + i) = 0 ∧ (mx_uI g (.inl 109) (6 * S + c) 0).2.1 (.inl 109) (6 * S + i) = 0 ∧ (mx_uI g (.inl 110) (6 * S + c) 0).2.1 (.inl 110) (6 * S + i) = 0
      by_cases e : i = c
      · subst e
        rw [rI_s, rI_s, rI_s, rI_s]
        exact ⟨rfl, rfl, rfl, rfl⟩
      · rw [rI_i (by omega), rI_i (by omega), rI_i (by omega), rI_i (by omega)]
        exact Z i (by omega)
theorem R182b {s : Int32} (hs : s.toInt = (S : Int)) (S11 : S ≤ 12) : ∀ (j c : Nat) (x : Int32) {h0 g : mx_H}, c + j = 36 → x.toInt = ((36 * S + c : Nat) : Int) → rz_FR S h0 g → (∀ i, g.2.1 (.inl 105) i = h0.2.1 (.inl 105) i) → g.2.1 (.inl 106) S = 0 → (∀ i, i < 6 → g.2.1 (.inl 107) (6 * S + i) = 0 ∧ g.2.1 (.inl 108) (6 * S + i) = 0 ∧ g.2.1 (.inl 109) (6 * S + i) = 0 ∧ g.2.1 (.inl 110) (6 * S + i) = 0) → (∀ i, i < c → g.2.1 (.inl 113) (36 * S + i) = 0) →
    rz_FR S h0 (g182_74 s x g) ∧ (∀ i, (g182_74 s x g).2.1 (.inl 105) i = h0.2.1 (.inl 105) i) ∧ (g182_74 s x g).2.1 (.inl 106) S = 0 ∧ (∀ i, i < 6 → (g182_74 s x g).2.1 (.inl 107) (6 * S + i) = 0 ∧ (g182_74 s x g).2.1 (.inl 108) (6 * S + i) = 0 ∧ (g182_74 s x g).2.1 (.inl 109) (6 * S + i) = 0 ∧ (g182_74 s x g).2.1 (.inl 110) (6 * S + i) = 0) ∧ ∀ i, i < 36 → (g182_74 s x g).2.1 (.inl 113) (36 * S + i) = 0
  | 0, c, x, h0, g, e, hx, F, U, z, Z, Y => by
    have w := i_add (i_mul k_36 hs (by omega) (by omega)) k_36 (by omega) (by omega)
    rw [g182_74_eq, if_pos (i_le w hx (by omega))]
    exact ⟨F, U, z, Z, fun i hi => Y i (by omega)⟩
  | j + 1, c, x, h0, g, e, hx, F, U, z, Z, Y => by
    have w := i_add (i_mul k_36 hs (by omega) (by omega)) k_36 (by omega) (by omega)
    rw [g182_74_eq, if_neg (i_nle w hx (by omega)), i_cl hx]
    refine R182b hs S11 j (c + 1) (x + 1) (by omega) (by rw [i_add hx k_1 (by omega) (by omega)]; omega) ?_ U z Z (fun i hi => ?_)
    · exact ((F.u (by unfold rz_w; omega)).u (by unfold rz_w; omega)).u (by unfold rz_w; omega)
    · show (mx_uI g (.inl 113) (36 * S + c) 0).2.1 (.inl 113) (36 * S + i) = 0
      by_cases e : i = c
      · subst e
        rw [rI_s]
      · rw [rI_i (by omega)]
        exact Y i (by omega)
theorem R182 {s : Int32} (hs : s.toInt = (S : Int)) (S11 : S ≤ 12) : rz_FR S h (f182 s h) ∧ (∀ i, (f182 s h).2.1 (.inl 105) i = h.2.1 (.inl 105) i) ∧ (f182 s h).2.1 (.inl 106) S = 0 ∧ (∀ i, i < 6 → (f182 s h).2.1 (.inl 107) (6 * S + i) = 0 ∧ (f182 s h).2.1 (.inl 108) (6 * S + i) = 0 ∧ (f182 s h).2.1 (.inl 109) (6 * S + i) = 0 ∧ (f182 s h).2.1 (.inl 110) (6 * S + i) = 0) ∧ ∀ i, i < 36 → (f182 s h).2.1 (.inl 113) (36 * S + i) = 0 := by
  rw [f182_eq, i_cl hs]
  obtain ⟨g, e, F, U, z, Z⟩ := R182a hs S11 6 0 0 (h0 := h) (g := mx_uI h (.inl 106) S 0) (by omega) rfl (rz_FR.refl.u (by unfold rz_w; omega)) (fun _ => rfl) rI_s (fun i hi => absurd hi (Nat.not_lt_zero _))
  rw [e]
  exact R182b hs S11 36 0 (36 * s) (by omega) (by rw [i_mul k_36 hs (by omega) (by omega)]; omega) F U z Z (fun i hi => absurd hi (Nat.not_lt_zero _))
/-- no pads, no weights are marked -/
theorem R192a : ∀ (j c : Nat) (x : Int32) {h0 g : mx_H}, c + j = 6 → x.toInt = (c : Int) → (∀ k i, k ≠ 121 → k ≠ 122 → g.2.1 (.inl k) i = h0.2.1 (.inl k) i) → rz_FR S h0 g → (∀ i, i < c → g.2.1 (.inl 121) i = 0 ∧ g.2.1 (.inl 122) i = 0) →
    ∃ g', g192_25 x g = (if f185 g' = 99 then g192_75 (rz_r g') else f186 g') ∧ (∀ k i, k ≠ 121 → k ≠ 122 → g'.2.1 (.inl k) i = h0.2.1 (.inl k) i) ∧ rz_FR S h0 g' ∧ (∀ i, i < 6 → g'.2.1 (.inl 121) i = 0 ∧ g'.2.1 (.inl 122) i = 0)
  | 0, c, x, h0, g, e, hx, U, F, Z => by
    refine ⟨g, ?_, U, F, fun i hi => Z i (by omega)⟩
    rw [g192_25_eq, if_pos (i_le k_6 hx (by omega))]
    rfl
  | j + 1, c, x, h0, g, e, hx, U, F, Z => by
    rw [g192_25_eq, if_neg (i_nle k_6 hx (by omega)), i_cl hx]
    refine R192a j (c + 1) (x + 1) (by omega) (by rw [i_add hx k_1 (by omega) (by omega)]; omega) (fun k i q1 q2 => ?_) ?_ (fun i hi => ?_)
    · rw [rN q2, rN q1]
      exact U k i q1 q2
    · exact (F.u (by unfold rz_w; omega)).u (by unfold rz_w; omega)
    · show (mx_uI g (.inl 121) c 0).2.1 (.inl 121) i = 0 ∧ (mx_uI g (.inl 122) c 0).2.1 (.inl 122) i = 0
      by_cases e : i = c
      · subst e
        rw [rI_s, rI_s]
        exact ⟨rfl, rfl⟩
      · rw [rI_i (by omega), rI_i (by omega)]
        exact Z i (by omega)
/-- how a whole text ends -/
def rz_G (S C : Nat) (hc hr : mx_H) (r : Int32 × mx_H) (hr' : mx_H) : Prop :=
  rz_FW S hc r.2 ∧ (r.2.2.1 (.inr (S, 0)) 11 = -1 ∧ r.2.2.1 (.inr (S, 0)) 12 = -1) ∧ rz_FR S hr hr' ∧ ((r.1 = -1 ∧ rD hr' (.inl 105) 18 = -1 ∧ ∃ n, rz_C r.2 hr' S C n) ∨ (0 ≤ r.1.toInt ∧ 0 ≤ rD hr' (.inl 105) 18))
/-- the whole text -/
theorem rz_text (L120 : L ≤ 120) (h1 : rD hc (.inl 1) 1 = L) (h2 : rD hr (.inl 105) 16 = L) (hb : ∀ i, i < L → rz_b (rD hc (.inl 2) i) (rD hr (.inl 118) i)) (hS : rD hr (.inl 105) 1 = S) (S11 : S ≤ 12) :
    ∃ C, 1 ≤ C ∧ rz_G S C hc hr (f86 S hc) (f192 hr) := by
  obtain ⟨F, c0, c6, c11, c12, cc⟩ := C59s S hc
  rw [f86_eq, f192_eq]
  show ∃ C, 1 ≤ C ∧ rz_G S C hc hr (x_let (f87 S (mx_uI (f59 S hc) (.inl 1) 2 0)) (fun g h => g86_17 S g 0 h)) (g192_25 0 (f182 (hr.2.1 (.inl 105) 1) (mx_uI (mx_uI (mx_uI hr (.inl 105) 17 0) (.inl 105) 18 (-1)) (.inl 105) 19 0)))
  have G0 : rz_FR S hr (mx_uI (mx_uI (mx_uI hr (.inl 105) 17 0) (.inl 105) 18 (-1)) (.inl 105) 19 0) := ((rz_FR.refl.u (by unfold rz_w; omega)).u (by unfold rz_w; omega)).u (by unfold rz_w; omega)
  obtain ⟨G, g5, g6, gg, g36⟩ := R182 (h := mx_uI (mx_uI (mx_uI hr (.inl 105) 17 0) (.inl 105) 18 (-1)) (.inl 105) 19 0) hS S11
  generalize f182 (hr.2.1 (.inl 105) 1) (mx_uI (mx_uI (mx_uI hr (.inl 105) 17 0) (.inl 105) 18 (-1)) (.inl 105) 19 0) = q at G g5 g6 gg g36 ⊢
  obtain ⟨g', e, U, F', Z⟩ := R192a (S := S) 6 0 0 (h0 := q) (g := q) (by omega) rfl (fun _ _ _ _ => rfl) rz_FR.refl (fun i hi => absurd hi (Nat.not_lt_zero _))
  rw [e]
  have v5 : ∀ i, g'.2.1 (.inl 105) i = (mx_uI (mx_uI (mx_uI hr (.inl 105) 17 0) (.inl 105) 18 (-1)) (.inl 105) 19 0).2.1 (.inl 105) i := fun i => (U 105 i (by decide +kernel) (by decide +kernel)).trans (g5 i)
  have FR1 : rz_FR S hr g' := (G0.trans G).trans F'
  have FC1 : rz_FW S hc (mx_uI (f59 S hc) (.inl 1) 2 0) := F.c
  have t16 : rD g' (.inl 105) 16 = L := by
    unfold rD
    rw [v5]
    exact h2
  have t17 : rD g' (.inl 105) 17 = (0 : Nat) := by
    unfold rD
    rw [v5]
    rfl
  have t18 : rD g' (.inl 105) 18 = -1 := by
    unfold rD
    rw [v5]
    rfl
  have t19 : rD g' (.inl 105) 19 = (0 : Nat) := by
    unfold rD
    rw [v5]
    rfl
  have t1 : rD g' (.inl 105) 1 = S := by
    unfold rD
    rw [v5]
    exact hS
  have T : rz_T (mx_uI (f59 S hc) (.inl 1) 2 0) g' L 0 := by
    refine ⟨L120, Nat.zero_le _, ?_, rfl, t16, t17, fun i hi => ?_⟩
    · show ((f59 S hc).2.1 (.inl 1) 1).toInt = _
      rw [F.2.2.1 1 1 (by decide +kernel)]
      exact h1
    · have e1 : rD (mx_uI (f59 S hc) (.inl 1) 2 0) (.inl 2) i = rD hc (.inl 2) i := by
        show ((f59 S hc).2.1 (.inl 2) i).toInt = _
        rw [F.2.2.1 2 i (by omega)]
      have e2 : rD g' (.inl 118) i = rD hr (.inl 118) i := by
        unfold rD
        rw [FR1.2.2.2 118 i (by unfold rz_w; omega)]
      rw [e1, e2]
      exact hb i hi
  have K : rz_C (mx_uI (f59 S hc) (.inl 1) 2 0) g' S 0 0 := by
    have z13 : ∀ i, i < 36 → g'.2.1 (.inl 113) (36 * S + i) = 0 := fun i hi => by
      rw [U 113 _ (by decide +kernel) (by decide +kernel)]
      exact g36 i hi
    refine ⟨by decide +kernel, ?_, ?_, ?_, t19, fun c q => absurd q (Nat.not_lt_zero _), fun c q => ?_, fun k q => absurd q (Nat.not_lt_zero _), fun u v hu hv => ?_, ?_, fun q q' u v hq => absurd hq (Nat.not_lt_zero _)⟩
    · show ((f59 S hc).2.1 (.inr (S, 0)) 0).toInt = _
      rw [c0]
      rfl
    · unfold rD
      rw [U 106 _ (by decide +kernel) (by decide +kernel), g6]
      rfl
    · show ((f59 S hc).2.1 (.inr (S, 0)) 6).toInt = _
      rw [c6]
      rfl
    · obtain ⟨p2, p3, p4⟩ := cc c q
      obtain ⟨-, q8, q9, q0⟩ := gg c q
      have p2' : (mx_uI (f59 S hc) (.inl 1) 2 0).2.1 (.inr (S, 2)) c = 0 := p2
      have p3' : (mx_uI (f59 S hc) (.inl 1) 2 0).2.1 (.inr (S, 3)) c = 0 := p3
      have p4' : (mx_uI (f59 S hc) (.inl 1) 2 0).2.1 (.inr (S, 4)) c = 0 := p4
      rw [p2', p3', p4', U 108 _ (by decide +kernel) (by decide +kernel), U 109 _ (by decide +kernel) (by decide +kernel), U 110 _ (by decide +kernel) (by decide +kernel), q8, q9, q0, (Z c q).1, (Z c q).2]
      exact ⟨rfl, rfl, rfl, Iff.rfl, Iff.rfl⟩
    · refine Or.inl ?_
      rw [show 36 * S + 6 * u + v = 36 * S + (6 * u + v) by omega]
      exact z13 _ (by omega)
    · have : ∀ c ∈ sd_CL, ¬ rz_g g' S c = true := fun c hc1 q => by
        have lt : ∀ c ∈ sd_CL, c < 36 := by decide +kernel
        exact of_decide_eq_true q (z13 c (lt c hc1))
      unfold sd_C
      rw [List.filter_eq_nil_iff.mpr this]
      rfl
  rcases rz_is T k_99 (by omega) (by omega) with ⟨e1, e2, pl⟩ | ⟨e1, e2⟩
  · rw [f87_eq, if_pos e1, if_pos e2]
    obtain ⟨C, c1, E⟩ := rz_corn (L := L) (S := S) 7 (k := 0) (a2 := 0) (by omega) rfl (rz_adv T pl) K t18 t1 S11
    have E1 : rz_FC S (mx_uI (f59 S hc) (.inl 1) 2 0) (x_let (g87_23 S 0 (rz_c (mx_uI (f59 S hc) (.inl 1) 2 0))) (fun g h => g86_17 S g 0 h)).2 := (rz_FCc rz_FC.refl).trans E.1
    refine ⟨C, c1, FC1.trans E1.w, ⟨?_, ?_⟩, (rz_FRr FR1).trans E.2.1, E.2.2⟩
    · exact (E1.2.2.2 S 0 11 (by omega)).trans c11
    · exact (E1.2.2.2 S 0 12 (by omega)).trans c12
  · rw [f87_eq, if_neg e1, if_neg e2]
    refine ⟨1, Nat.le_refl _, ?_⟩
    show rz_G S 1 hc hr (g86_17 S 0 0 (mx_uI (f59 S hc) (.inl 1) 2 0)) (f186 g')
    rw [C86g, if_pos rfl]
    refine ⟨FC1, ⟨c11, c12⟩, rz_FRf FR1 t18, Or.inr ⟨?_, ?_⟩⟩
    · show 0 ≤ (0 : Int32).toInt
      decide
    · rw [G186 t18]
      show 0 ≤ rD g' (.inl 105) 17
      omega
end RY
