/-! ===== reference: counting pieces; a shape that is made ===== -/
def sd_CL : List Nat := [1, 2, 3, 4, 5, 8, 9, 10, 11, 15, 16, 17, 22, 23, 29]
def sd_C (l : List Nat) (g : Nat → Bool) : Nat := (l.filter g).length
theorem sd_C_cons {x : Nat} {l : List Nat} {g : Nat → Bool} : sd_C (x :: l) g = sd_C l g + (if g x = true then 1 else 0) := by
  unfold sd_C
  by_cases c : g x = true
  · rw [List.filter_cons_of_pos c, if_pos c, List.length_cons]
  · rw [List.filter_cons_of_neg c, if_neg c, Nat.add_zero]
theorem sd_C_mono {l : List Nat} {g g' : Nat → Bool} (h : ∀ x ∈ l, g x = true → g' x = true) : sd_C l g ≤ sd_C l g' := by
  induction l with
  | nil => exact Nat.le_refl _
  | cons x l ih =>
    rw [sd_C_cons, sd_C_cons]
    have i := ih (fun y hy => h y (List.mem_cons_of_mem _ hy))
    by_cases c : g x = true
    · rw [if_pos c, if_pos (h x List.mem_cons_self c)]
      omega
    · rw [if_neg c]
      omega
theorem sd_C_lt2 {l : List Nat} {g g' : Nat → Bool} {c : Nat} (h : ∀ x ∈ l, g x = true → g' x = true) (hc : c ∈ l) (h0 : ¬ g c = true) (h1 : g' c = true) : sd_C l g + 1 ≤ sd_C l g' := by
  induction l with
  | nil => cases hc
  | cons x l ih =>
    rw [sd_C_cons, sd_C_cons]
    by_cases e : x = c
    · subst e
      rw [if_neg h0, if_pos h1]
      have := sd_C_mono (l := l) (fun y hy => h y (List.mem_cons_of_mem _ hy))
      omega
    · have hc' : c ∈ l := by
        rcases List.mem_cons.mp hc with q | q
        · exact absurd q.symm e
        · exact q
      have i := ih (fun y hy => h y (List.mem_cons_of_mem _ hy)) hc'
      by_cases c : g x = true
      · rw [if_pos c, if_pos (h x List.mem_cons_self c)]
        omega
      · rw [if_neg c]
        omega
theorem sd_C_add1 {l : List Nat} {g g' : Nat → Bool} {c : Nat} (hn : l.Nodup) (h : ∀ x ∈ l, x ≠ c → g' x = true → g x = true) : sd_C l g' ≤ sd_C l g + 1 := by
  induction l with
  | nil => exact Nat.zero_le _
  | cons x l ih =>
    rw [sd_C_cons, sd_C_cons]
    obtain ⟨n1, n2⟩ := List.nodup_cons.mp hn
    by_cases e : x = c
    · subst e
      have := sd_C_mono (l := l) (g := g') (g' := g) (fun y hy q => h y (List.mem_cons_of_mem _ hy) (fun e => n1 (e ▸ hy)) q)
      have : (if g' x = true then 1 else 0) ≤ 1 := by split <;> omega
      omega
    · have i := ih n2 (fun y hy => h y (List.mem_cons_of_mem _ hy))
      by_cases q : g' x = true
      · rw [if_pos q, if_pos (h x List.mem_cons_self e q)]
        omega
      · rw [if_neg q]
        omega
theorem sd_C_15 (g : Nat → Bool) : sd_C sd_CL g ≤ 15 := List.length_filter_le g sd_CL
theorem sd_C_14 {g : Nat → Bool} {c : Nat} (hc : c ∈ sd_CL) (h0 : ¬ g c = true) : sd_C sd_CL g ≤ 14 := by
  have := sd_C_lt2 (g' := fun _ => true) (fun _ _ _ => rfl) hc h0 rfl
  have := sd_C_15 (fun _ => true)
  omega
theorem sd_CLn : sd_CL.Nodup := by decide
/-- the place of a pair with the lesser corner first -/
theorem sd_pair {a b : Nat} (ha : a < 6) (hb : b < 6) (hn : a ≠ b) : ∃ c ∈ sd_CL, c = 6 * a + b ∨ c = 6 * b + a := by
  have A : ∀ a, a < 6 → ∀ b, b < 6 → a ≠ b → ∃ c ∈ sd_CL, c = 6 * a + b ∨ c = 6 * b + a := by decide
  exact A a ha b hb hn
/-- with one shape more -/
def sd_u (h : mx_H) (S : Nat) : mx_H := mx_uI h (.inl 105) 1 (nI (S + 1))
theorem sd_uu {h : mx_H} {S : Nat} {n i : Nat} {v : Int32} (q : ¬ (n = 105 ∧ i = 1)) : sd_u (mx_uI h (.inl n) i v) S = mx_uI (sd_u h S) (.inl n) i v := by
  have e : mx_up (mx_up h.2.1 (.inl n) i v) (.inl 105) 1 (nI (S + 1)) = mx_up (mx_up h.2.1 (.inl 105) 1 (nI (S + 1))) (.inl n) i v := by
    funext a j
    unfold mx_up
    by_cases c : a = .inl 105 ∧ j = 1
    · rw [if_pos c, if_neg (fun c2 => q ⟨Sum.inl.inj (c2.1.symm.trans c.1), c2.2.symm.trans c.2⟩), if_pos c]
    · rw [if_neg c, if_neg c]
  show (h.1, mx_up (mx_up h.2.1 (.inl n) i v) (.inl 105) 1 (nI (S + 1)), h.2.2.1, h.2.2.2) = _
  rw [e]
  rfl
theorem sd_ur {h : mx_H} {S n i : Nat} (q : ¬ (n = 105 ∧ i = 1)) : (sd_u h S).2.1 (.inl n) i = h.2.1 (.inl n) i := if_neg (fun c => q ⟨Sum.inl.inj c.1, c.2⟩)
theorem sd_us {h : mx_H} {S : Nat} : (sd_u h S).2.1 (.inl 105) 1 = nI (S + 1) := rfl
theorem sd_up {h : mx_H} {S p : Nat} {b s c : Int32} : sd_u (sx_p h p b s c) S = sx_p (sd_u h S) p b s c := by
  unfold sx_p
  rw [sd_uu (by omega), sd_uu (by omega), sd_uu (by omega)]
theorem sd_dig {s a b S A B : Nat} (ha : a < 6) (hb : b < 6) (hA : A < 6) (hB : B < 6) (e : 36 * s + 6 * a + b = 36 * S + 6 * A + B) : s = S ∧ a = A ∧ b = B := by
  have h1 : s = S := by omega
  subst h1
  have h2 : a = A := by omega
  subst h2
  exact ⟨rfl, rfl, by omega⟩
/-- a piece set both ways, where no body lies -/
theorem sd_set {g : mx_H} {S A B : Nat} {b s c : Int32} (hI : sf_I g) (hS : S ≤ 12) (hA : A < 6) (hB : B < 6) (pb : sf_iv 0 201 b) (ps : sf_iv 1 9 s) (pc : sf_iv 0 9 c)
    (hf : ∀ x : Nat, (x : Int) < (g.2.1 (.inl 105) 12).toInt → (g.2.1 (.inl 117) x).toInt ≠ ((36 * S + 6 * A + B : Nat) : Int) + 1 ∧ (g.2.1 (.inl 117) x).toInt ≠ ((36 * S + 6 * B + A : Nat) : Int) + 1) :
    sf_I (sx_p (sx_p g (36 * S + 6 * A + B) b s c) (36 * S + 6 * B + A) b s c) := by
  have ps0 : sf_iv 0 9 s := ⟨by have := ps.1; omega, ps.2⟩
  generalize hp1 : 36 * S + 6 * A + B = p1
  generalize hp2 : 36 * S + 6 * B + A = p2
  have B0 : sf_B (sx_p (sx_p g p1 b s c) p2 b s c) := sf_uB (r := 324) (sf_uB (r := 323) (sf_uB (r := 325) (sf_uB (r := 324) (sf_uB (r := 323) (sf_uB (r := 325) hI.B rfl pb (by decide)) rfl ps0 (by decide)) rfl pc (by decide)) rfl pb (by decide)) rfl ps0 (by decide)) rfl pc (by decide)
  refine B0.I ?_
  generalize hg : sx_p (sx_p g p1 b s c) p2 b s c = g'
  have e1 : ∀ i, g'.2.1 (.inl 113) i = if i = p1 ∨ i = p2 then b else g.2.1 (.inl 113) i := fun i => by
    subst hg
    unfold sx_p
    rw [sf_ro (by decide), sf_ro (by decide)]
    by_cases c2 : i = p2
    · rw [c2, sf_rs, if_pos (Or.inr rfl)]
    · rw [sf_roi c2, sf_ro (by decide), sf_ro (by decide)]
      by_cases c1 : i = p1
      · rw [c1, sf_rs, if_pos (Or.inl rfl)]
      · rw [sf_roi c1, if_neg (by omega)]
  have e2 : ∀ i, g'.2.1 (.inl 111) i = if i = p1 ∨ i = p2 then s else g.2.1 (.inl 111) i := fun i => by
    subst hg
    unfold sx_p
    rw [sf_ro (by decide)]
    by_cases c2 : i = p2
    · rw [c2, sf_rs, if_pos (Or.inr rfl)]
    · rw [sf_roi c2, sf_ro (by decide), sf_ro (by decide)]
      by_cases c1 : i = p1
      · rw [c1, sf_rs, if_pos (Or.inl rfl)]
      · rw [sf_roi c1, sf_ro (by decide), if_neg (by omega)]
  have o : ∀ n i, n ≠ 111 ∧ n ≠ 112 ∧ n ≠ 113 → sf_jf g' (.inl n) i = sf_jf g (.inl n) i := fun n i hn => by
    subst hg
    exact (sf_JRo _ _ (by omega)).trans ((sf_JRo _ _ (by omega)).trans ((sf_JRo _ _ (by omega)).trans ((sf_JRo _ _ (by omega)).trans ((sf_JRo _ _ (by omega)).trans (sf_JRo _ _ (by omega))))))
  have o2 : ∀ q i, sf_jf g' (.inr q) i = sf_jf g (.inr q) i := fun q i => by
    subst hg
    exact (sf_jf_o (fun q => by cases q.1)).trans ((sf_jf_o (fun q => by cases q.1)).trans ((sf_jf_o (fun q => by cases q.1)).trans ((sf_jf_o (fun q => by cases q.1)).trans ((sf_jf_o (fun q => by cases q.1)).trans (sf_jf_o (fun q => by cases q.1))))))
  have eR : g'.2.2.2 = g.2.2.2 := by subst hg; rfl
  have en : g'.1 = g.1 := by subst hg; rfl
  obtain ⟨hC, k1, k2, k3, k4, k5⟩ := hI.2.2
  unfold sf_J
  rw [eR, en]
  refine ⟨sf_JC_c (fun k i hk => o k i (by omega)) o2 hC, ?_, ?_, ?_, ?_, ?_⟩
  · unfold sf_K1 at *
    simp only [o 105 _ (by simp), o 123 _ (by simp), o 124 _ (by simp), o 125 _ (by simp), o 126 _ (by simp)]
    exact k1
  · unfold sf_K2 at *
    simp only [o 105 _ (by simp), o 106 _ (by simp), o 107 _ (by simp)]
    exact k2
  · intro p q1 q2
    rw [o _ _ (by omega)] at q1
    rw [sf_r1, e1] at q2
    rw [sf_r2, e2]
    by_cases c : p = p1 ∨ p = p2
    · rw [if_pos c]
      exact ps.1
    · rw [if_neg c] at q2 ⊢
      have := k3 p q1 (by rw [sf_r1]; exact q2)
      rw [sf_r2] at this
      exact this
  · intro s' a' b' q1 ha' hb'
    rw [o _ _ (by omega)] at q1
    rw [sf_r1, sf_r1, e1, e1]
    by_cases c : 36 * s' + 6 * a' + b' = p1 ∨ 36 * s' + 6 * a' + b' = p2
    · rw [if_pos c, if_pos]
      rcases c with c | c
      · obtain ⟨d1, d2, d3⟩ := sd_dig ha' hb' hA hB (c.trans hp1.symm)
        subst d1
        subst d2
        subst d3
        exact Or.inr hp2
      · obtain ⟨d1, d2, d3⟩ := sd_dig ha' hb' hB hA (c.trans hp2.symm)
        subst d1
        subst d2
        subst d3
        exact Or.inl hp1
    · rw [if_neg c, if_neg]
      · skip
        have := k4 s' a' b' q1 ha' hb'
        rw [sf_r1, sf_r1] at this
        exact this
      · intro c'
        refine c ?_
        rcases c' with c' | c'
        · obtain ⟨d1, d2, d3⟩ := sd_dig hb' ha' hA hB (c'.trans hp1.symm)
          subst d1
          subst d2
          subst d3
          exact Or.inr hp2
        · obtain ⟨d1, d2, d3⟩ := sd_dig hb' ha' hB hA (c'.trans hp2.symm)
          subst d1
          subst d2
          subst d3
          exact Or.inl hp1
  · intro x hx h0
    rw [o _ _ (by omega)] at hx
    rw [o 117 _ (by omega)] at h0 ⊢
    obtain ⟨s', x', y', q1, q2, q3, q4, q5, q6⟩ := k5 x hx h0
    rw [sf_bo0] at hx
    have f := hf x hx
    rw [sf_bo1] at q1
    refine ⟨s', x', y', by rw [sf_bo1]; exact q1, by rw [o _ _ (by omega)]; exact q2, by rw [o _ _ (by omega)]; exact q3, by rw [o _ _ (by omega)]; exact q4, q5, ?_⟩
    rw [sf_r1, e1, if_neg (by omega)]
    rw [sf_r1] at q6
    exact q6
/-- one body more, on its piece -/
theorem sd_pp {g : mx_H} {S A B N : Nat} (hI : sf_I g) (hS : (S : Int) < (g.2.1 (.inl 105) 1).toInt) (hA : (A : Int) < (g.2.1 (.inl 106) S).toInt) (hB : (B : Int) < (g.2.1 (.inl 106) S).toInt) (hn : A ≠ B) (hb : g.2.1 (.inl 105) 12 = nI N) (hN : N < 200) (hl : (g.2.1 (.inl 117) N).toInt = ((36 * S + 6 * A + B : Nat) : Int) + 1) (ho : (g.2.1 (.inl 113) (36 * S + 6 * A + B)).toInt = (N : Int) + 1) : sf_I (mx_uI g (.inl 105) 12 (nI (N + 1))) := by
  refine sf_uJ (r := 236) (lo := 0) (hi := 200) hI rfl (sf_nI (by omega) (by decide)) (by decide) ?_
  have o : ∀ n i, ¬ (n = 105 ∧ i = 12) → sf_jf (mx_uI g (.inl 105) 12 (nI (N + 1))) (.inl n) i = sf_jf g (.inl n) i := fun n i hn => sf_JRo _ _ hn
  refine sf_Jk5 (h := g) (fun n i hn => o n i (by omega)) (fun q i => sf_jf_o (fun q => by cases q.1)) rfl rfl hI.2.2 ?_
  intro b hb' h0
  rw [sf_bo0, sf_rs, nI_toInt (by omega)] at hb'
  rw [o 117 b (by omega)] at h0 ⊢
  by_cases e : b < N
  · obtain ⟨s, p, q, q1, q2, q3, q4, q5, q6⟩ := hI.2.2.2.2.2.2.2 b (by rw [sf_bo0, hb, nI_toInt (by omega)]; omega) h0
    exact ⟨s, p, q, q1, by rw [o 105 1 (by omega)]; exact q2, by rw [o 106 s (by omega)]; exact q3, by rw [o 106 s (by omega)]; exact q4, q5, by rw [o 113 _ (by omega)]; exact q6⟩
  · have : b = N := by omega
    subst this
    refine ⟨S, A, B, by rw [sf_bo1]; exact hl, ?_, ?_, ?_, hn, ?_⟩
    · rw [o 105 1 (by omega), sf_jfr (r := 225) rfl rfl]
      exact hS
    · rw [o 106 S (by omega), sf_jfr (r := 318) rfl rfl]
      exact hA
    · rw [o 106 S (by omega), sf_jfr (r := 318) rfl rfl]
      exact hB
    · rw [o 113 _ (by omega), sf_r1]
      exact ho
