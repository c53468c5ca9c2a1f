/-! ===== corners of a shape copied into the draft ===== -/
section RX
variable {h g hc hr : mx_H} {S N n C M k s1 s o C1 c d : Nat} {a1 a2 a3 a4 : Int32}
theorem rP {o' i : Nat} {v : Int32} (ho : o ≠ o') : (mx_uI h (.inr (S, o')) i v).2.1 (.inr (s, o)) = h.2.1 (.inr (s, o)) := funext fun _ => rI_a (fun e => by
  cases e
  exact ho rfl)
def k_cc (h : mx_H) (S s1 d c : Nat) : mx_H := mx_uI (mx_uI (mx_uI (mx_uI (mx_uI h (.inr (S, 1)) d (h.2.1 (.inr (s1, 1)) c)) (.inr (S, 2)) d (h.2.1 (.inr (s1, 2)) c)) (.inr (S, 3)) d (h.2.1 (.inr (s1, 3)) c)) (.inr (S, 4)) d (h.2.1 (.inr (s1, 4)) c)) (.inr (S, 0)) 0 (h.2.1 (.inr (S, 0)) 0 + 1)
theorem C64c (hC : rD h (.inr (s1, 0)) 0 = C1) (hd : rD h (.inr (S, 0)) 0 = d) (d6 : d < 6) (ha : a3.toInt = (c : Int)) (hc1 : c < C1) : g64_7 S s1 a2 a3 h = g64_7 S s1 a2 (a3 + 1) (k_cc h S s1 d c) := by
  rw [g64_7_eq, if_neg (i_nle hC ha (by omega)), if_neg (i_nle k_6 hd (by omega))]
  simp only [rP (o := 0) (o' := 1) (by decide +kernel), rP (o := 0) (o' := 2) (by decide +kernel), rP (o := 0) (o' := 3) (by decide +kernel), rP (o := 0) (o' := 4) (by decide +kernel), rP (o := 2) (o' := 1) (by decide +kernel), rP (o := 3) (o' := 1) (by decide +kernel), rP (o := 3) (o' := 2) (by decide +kernel), rP (o := 4) (o' := 1) (by decide +kernel), rP (o := 4) (o' := 2) (by decide +kernel), rP (o := 4) (o' := 3) (by decide +kernel)]
  rw [i_cl hd, i_cl ha]
  rfl
/-- c corners of s1 stand from corner o on -/
def kc_F (h g : mx_H) (S s1 o c : Nat) : Prop := g.1 = h.1 ∧ g.2.2 = h.2.2 ∧ (∀ q i, g.2.1 (.inl q) i = h.2.1 (.inl q) i) ∧ (∀ s x i, ¬ (s = S ∧ x ≤ 4 ∧ (x = 0 → i = 0)) → g.2.1 (.inr (s, x)) i = h.2.1 (.inr (s, x)) i) ∧ rD g (.inr (S, 0)) 0 = ((o + c : Nat) : Int) ∧
  (∀ x i, 1 ≤ x → x ≤ 4 → i < o → g.2.1 (.inr (S, x)) i = h.2.1 (.inr (S, x)) i) ∧ ∀ x i, 1 ≤ x → x ≤ 4 → i < c → g.2.1 (.inr (S, x)) (o + i) = h.2.1 (.inr (s1, x)) i
theorem k_cc_r {x i : Nat} (h1 : 1 ≤ x) (h4 : x ≤ 4) : (k_cc h S s1 d c).2.1 (.inr (S, x)) i = if i = d then h.2.1 (.inr (s1, x)) c else h.2.1 (.inr (S, x)) i := by
  unfold k_cc
  rw [rP (by omega)]
  by_cases e : i = d
  · rw [if_pos e]
    rcases (show x = 1 ∨ x = 2 ∨ x = 3 ∨ x = 4 by omega) with t | t | t | t
    · subst t
      rw [rP (by decide +kernel), rP (by decide +kernel), rP (by decide +kernel), rI_c rfl e]
    · subst t
      rw [rP (by decide +kernel), rP (by decide +kernel), rI_c rfl e]
    · subst t
      rw [rP (by decide +kernel), rI_c rfl e]
    · subst t
      rw [rI_c rfl e]
  · rw [if_neg e, rI_i e, rI_i e, rI_i e, rI_i e]
theorem k_cc_o {x i : Nat} (q : ¬ (s = S ∧ x ≤ 4 ∧ (x = 0 → i = 0))) : (k_cc h S s1 d c).2.1 (.inr (s, x)) i = h.2.1 (.inr (s, x)) i := by
  have ne : ∀ o' : Nat, 1 ≤ o' → o' ≤ 4 → (Sum.inr (s, x) : mx_A) ≠ .inr (S, o') := fun o' w1 w2 e => by
    cases e
    exact q ⟨rfl, w2, fun t => by omega⟩
  unfold k_cc
  rw [show ∀ (H : mx_H) (v : Int32), (mx_uI H (.inr (S, 0)) 0 v).2.1 (.inr (s, x)) i = H.2.1 (.inr (s, x)) i from fun H v => if_neg (fun e => by
    have e1 := e.1
    have e2 := e.2
    cases e1
    exact q ⟨rfl, by decide +kernel, fun _ => e2⟩), rI_a (ne 4 (by decide +kernel) (by decide +kernel)), rI_a (ne 3 (by decide +kernel) (by decide +kernel)), rI_a (ne 2 (by decide +kernel) (by decide +kernel)), rI_a (ne 1 (by decide +kernel) (by decide +kernel))]
theorem C64l (ne : s1 ≠ S) (hC : rD h (.inr (s1, 0)) 0 = C1) (oC : o + C1 ≤ 6) : ∀ (j c : Nat) (a3 : Int32) {g : mx_H}, c + j = C1 → a3.toInt = (c : Int) → kc_F h g S s1 o c → ∃ g', g64_7 S s1 a2 a3 g = g64_102 S s1 a2 0 g' ∧ kc_F h g' S s1 o C1
  | 0, c, a3, g, e, ha, F => by
    have hg : rD g (.inr (s1, 0)) 0 = C1 := by
      unfold rD
      rw [F.2.2.2.1 s1 0 0 (fun t => ne t.1)]
      exact hC
    refine ⟨g, ?_, (show c = C1 by omega) ▸ F⟩
    rw [g64_7_eq, if_pos (i_le hg ha (by omega))]
  | j + 1, c, a3, g, e, ha, F => by
    obtain ⟨f1, f2, f3, f4, f5, f6, f7⟩ := F
    have hg : rD g (.inr (s1, 0)) 0 = C1 := by
      unfold rD
      rw [f4 s1 0 0 (fun t => ne t.1)]
      exact hC
    rw [C64c (d := o + c) hg f5 (by omega) ha (by omega)]
    refine C64l ne hC oC j (c + 1) (a3 + 1) (by omega) ((i_add ha k_1 (by omega) (by omega)).trans (by omega)) ⟨f1, f2, f3, fun s x i q => (k_cc_o q).trans (f4 s x i q), ?_, fun x i w1 w2 hi => ?_, fun x i w1 w2 hi => ?_⟩
    · unfold rD k_cc
      rw [rI_s]
      exact (i_add f5 k_1 (by omega) (by omega)).trans (by omega)
    · rw [k_cc_r w1 w2, if_neg (by omega)]
      exact f6 x i w1 w2 hi
    · rw [k_cc_r w1 w2]
      by_cases t : i = c
      · rw [if_pos (by omega), t]
        exact f4 s1 x c (fun q => ne q.1)
      · rw [if_neg (by omega)]
        exact f7 x i w1 w2 (by omega)
/-! the reference's corners -/
def r_cc (h : mx_H) (d c : Nat) : mx_H := mx_uI (mx_uI (mx_uI (mx_uI h (.inl 107) d (h.2.1 (.inl 107) c)) (.inl 108) d (h.2.1 (.inl 108) c)) (.inl 109) d (h.2.1 (.inl 109) c)) (.inl 110) d (vp_nar .boolean (h.2.1 (.inl 110) c))
theorem R279c (h1 : a1.toInt = (s1 : Int)) (h2 : a2.toInt = (S : Int)) (h3 : a3.toInt = (o : Int)) (h4 : a4.toInt = (c : Int)) (hC : rD h (.inl 106) s1 = C1) (hc1 : c < C1) (oC : o + C1 ≤ 6) (S12 : S ≤ 12) (s12 : s1 ≤ 12) : g279_3 a1 a2 a3 a4 h = g279_3 a1 a2 a3 (a4 + 1) (r_cc h (6 * S + o + c) (6 * s1 + c)) := by
  have e1 := w6 h2 h3 S12 (show o < 6 by omega)
  have e2 : (6 * a2 + a3 + a4).toInt = ((6 * S + o + c : Nat) : Int) := (i_add e1 h4 (by omega) (by omega)).trans (by omega)
  have e3 := w6 h1 h4 s12 (show c < 6 by omega)
  rw [g279_3_eq, i_cl h1, if_neg (i_nle hC h4 (by omega)), i_cl e2, i_cl e3]
  rfl
def rc_F (h g : mx_H) (S s1 o c : Nat) : Prop := g.1 = h.1 ∧ g.2.2 = h.2.2 ∧ (∀ q i, g.2.1 (.inr q) i = h.2.1 (.inr q) i) ∧ (∀ q i, ¬ (107 ≤ q ∧ q ≤ 110 ∧ 6 * S + o ≤ i ∧ i < 6 * S + 6) → g.2.1 (.inl q) i = h.2.1 (.inl q) i) ∧ ∀ q i, 107 ≤ q → q ≤ 110 → i < c → g.2.1 (.inl q) (6 * S + o + i) = h.2.1 (.inl q) (6 * s1 + i)
theorem nar01 {x : Int32} (hx : x = 0 ∨ x = 1) : vp_nar .boolean x = x := by
  rcases hx with e | e
  · rw [e]
    rfl
  · rw [e]
    rfl
theorem r_cc_r {q i : Nat} (h1 : 107 ≤ q) (h2 : q ≤ 110) (hb : h.2.1 (.inl 110) c = 0 ∨ h.2.1 (.inl 110) c = 1) : (r_cc h d c).2.1 (.inl q) i = if i = d then h.2.1 (.inl q) c else h.2.1 (.inl q) i := by
  unfold r_cc
  rw [nar01 hb]
  by_cases e : i = d
  · rw [if_pos e]
    rcases (show q = 107 ∨ q = 108 ∨ q = 109 ∨ q = 110 by omega) with t | t | t | t
    · subst t
      rw [rN (by decide +kernel), rN (by decide +kernel), rN (by decide +kernel), rI_c rfl e]
    · subst t
      rw [rN (by decide +kernel), rN (by decide +kernel), rI_c rfl e]
    · subst t
      rw [rN (by decide +kernel), rI_c rfl e]
    · subst t
      rw [rI_c rfl e]
  · rw [if_neg e, rI_i e, rI_i e, rI_i e, rI_i e]
theorem r_cc_o {q i : Nat} (t : ¬ (107 ≤ q ∧ q ≤ 110)) : (r_cc h d c).2.1 (.inl q) i = h.2.1 (.inl q) i := by
  unfold r_cc
  rw [rN (by omega), rN (by omega), rN (by omega), rN (by omega)]
theorem R279l (lt : s1 < S) (S12 : S ≤ 12) (h1 : a1.toInt = (s1 : Int)) (h2 : a2.toInt = (S : Int)) (h3 : a3.toInt = (o : Int)) (hC : rD h (.inl 106) s1 = C1) (oC : o + C1 ≤ 6) (hb : ∀ i, i < C1 → h.2.1 (.inl 110) (6 * s1 + i) = 0 ∨ h.2.1 (.inl 110) (6 * s1 + i) = 1) : ∀ (j c : Nat) (a4 : Int32) {g : mx_H}, c + j = C1 → a4.toInt = (c : Int) → rc_F h g S s1 o c → rc_F h (g279_3 a1 a2 a3 a4 g) S s1 o C1
  | 0, c, a4, g, e, ha, F => by
    have hg : rD g (.inl 106) s1 = C1 := by
      unfold rD
      rw [F.2.2.2.1 106 s1 (by omega)]
      exact hC
    rw [g279_3_eq, i_cl h1, if_pos (i_le hg ha (by omega))]
    exact (show c = C1 by omega) ▸ F
  | j + 1, c, a4, g, e, ha, F => by
    obtain ⟨f1, f2, f3, f4, f5⟩ := F
    have hg : rD g (.inl 106) s1 = C1 := by
      unfold rD
      rw [f4 106 s1 (by omega)]
      exact hC
    have bb : g.2.1 (.inl 110) (6 * s1 + c) = 0 ∨ g.2.1 (.inl 110) (6 * s1 + c) = 1 := by
      rw [f4 110 (6 * s1 + c) (by omega)]
      exact hb c (by omega)
    rw [R279c h1 h2 h3 ha hg (by omega) oC S12 (by omega)]
    refine R279l lt S12 h1 h2 h3 hC oC hb j (c + 1) (a4 + 1) (by omega) ((i_add ha k_1 (by omega) (by omega)).trans (by omega)) ⟨f1, f2, f3, fun q i t => ?_, fun q i w1 w2 hi => ?_⟩
    · by_cases w : 107 ≤ q ∧ q ≤ 110
      · rw [r_cc_r w.1 w.2 bb, if_neg (by omega)]
        exact f4 q i t
      · rw [r_cc_o w]
        exact f4 q i t
    · rw [r_cc_r w1 w2 bb]
      by_cases t : i = c
      · rw [if_pos (by omega), t]
        exact f4 q (6 * s1 + c) (by omega)
      · rw [if_neg (by omega)]
        exact f5 q i w1 w2 (by omega)
end RX
/-! ===== a shape more, however it was drafted ===== -/
section RY
variable {hc hr hx gc gM : mx_H} {S N n C : Nat}
theorem rs_grow (A : rs_A hc hr S N) (S11 : S ≤ 11) (nn : N + n ≤ 200) (C1 : 1 ≤ C) (a : rz_FW S hc hx) (x5 : rD hx (.inr (S, 0)) 5 = N) (B : k_B hx gc N (N + n) S) (hM : rD gM (.inl 105) 1 = ((S + 1 : Nat) : Int)) (J : rj_J hx gM S C N n) (er : ∀ s, s < S → rs_er s hr gM) (l7 : ∀ i, i < N → gM.2.1 (.inl 116) i = hr.2.1 (.inl 116) i ∧ gM.2.1 (.inl 117) i = hr.2.1 (.inl 117) i)
    (c0 : rD hx (.inr (S, 0)) 0 = C) (r6 : rD gM (.inl 106) S = C) (cc : ∀ c, c < C → hx.2.1 (.inr (S, 1)) c = gM.2.1 (.inl 107) (6 * S + c) ∧ hx.2.1 (.inr (S, 2)) c = gM.2.1 (.inl 108) (6 * S + c) ∧ hx.2.1 (.inr (S, 3)) c = gM.2.1 (.inl 109) (6 * S + c) ∧ hx.2.1 (.inr (S, 4)) c = gM.2.1 (.inl 110) (6 * S + c))
    (par : hx.2.1 (.inr (S, 0)) 11 = gM.2.1 (.inl 114) S ∧ (¬ gM.2.1 (.inl 114) S = -1 → hx.2.1 (.inr (S, 0)) 12 = gM.2.1 (.inl 115) S)) : rs_A (k_N gc S) gM (S + 1) (N + n) := by
  obtain ⟨a1, a2, a3, a4, a5, a6, a7, a8, a9, a10⟩ := A
  obtain ⟨C6, j1, j2, j3, j4, j5⟩ := J
  obtain ⟨b1, b2, b3, b4, b5, b6, b7⟩ := B
  have xr : hx.2.2.2 = hc.2.2.2 := congrArg Prod.snd a.2.1
  have ni : ∀ s o i, s ≤ S → (k_N gc S).2.1 (.inr (s, o)) i = hx.2.1 (.inr (s, o)) i := fun s o i q => by
    show (sn_f (k_G gc S) (S + 1)).2.1 (.inr (s, o)) i = _
    rw [sn_io i (by omega)]
    exact b2 (s, o) i
  have nl : ∀ q i, ¬ (q = 0 ∧ i = 2) → (k_N gc S).2.1 (.inl q) i = gc.2.1 (.inl q) i := fun q i e => by
    show (k_G gc S).2.1 (.inl q) i = _
    exact if_neg (fun z => e ⟨Sum.inl.inj z.1, z.2⟩)
  have nr : ∀ q i, ¬ (q = 0 ∧ i = 3) → ¬ (q = 3 ∧ i = S) → (k_N gc S).2.2.2 (.inl q) i = gc.2.2.2 (.inl q) i := fun q i e1 e2 => by
    refine (if_neg (fun z => e1 ⟨Sum.inl.inj z.1, z.2⟩)).trans ?_
    exact if_neg (fun z => e2 ⟨Sum.inl.inj z.1, z.2⟩)
  have kx : ∀ q u v, rs_k hx gM S C N q u v → rs_k (k_N gc S) gM S C N q u v := fun q u v Q => by
    obtain ⟨o1, o2, o3, o4, o5, o6, o7, o8, o9, o10, o11, o12⟩ := Q
    unfold rs_k rD
    rw [ni S 5 q (Nat.le_refl _), ni S 6 q (Nat.le_refl _), ni S 7 q (Nat.le_refl _), ni S 8 q (Nat.le_refl _)]
    exact ⟨o1, o2, o3, o4, o5, o6, o7, o8, o9, o10, o11, o12⟩
  refine ⟨by omega, nn, ?_, hM, ?_, j2, ?_, ?_, fun s hs => ⟨?_, ?_⟩, fun i hi => ?_⟩
  · show (gc.2.1 (.inl 0) 2 + 1).toInt = _
    rw [b3 0 2 (by decide +kernel) (by decide +kernel), a.2.2.1 0 2 (by omega), i_add a3 k_1 (by omega) (by omega)]
    omega
  · unfold rD
    rw [nl 90 0 (by omega)]
    exact b4
  · show gc.1 + 9 = _
    rw [b1, a.1, a7]
    omega
  · exact (rR _ _ _ _ _ _).trans (if_pos ⟨rfl, rfl⟩)
  · by_cases e : s = S
    · subst e
      refine (rR _ _ _ _ _ _).trans ?_
      rw [if_neg (fun z => absurd (Sum.inl.inj z.1) (by decide +kernel))]
      show (mx_uR gc (.inl 3) s (some (.inr (s, 0)))).2.2.2 (.inl 3) s = _
      exact (rR _ _ _ _ _ _).trans (if_pos ⟨rfl, rfl⟩)
    · rw [nr 3 s (by omega) (by omega), b5 3 s (by decide +kernel), xr]
      exact (a9 s (by omega)).1
  · by_cases e : s = S
    · subst e
      refine ⟨C, n, N, C1, C6, Nat.le_refl _, ?_, r6, ?_, ?_, fun c q => ?_, ?_, fun q hq => ?_, fun u v hu hv => ?_, j5, fun q hq => ?_⟩
      · unfold rD
        rw [ni s 0 0 (Nat.le_refl _)]
        exact c0
      · unfold rD
        rw [ni s 0 6 (Nat.le_refl _)]
        exact j1
      · unfold rD
        rw [ni s 0 5 (Nat.le_refl _)]
        exact x5
      · rw [ni s 1 c (Nat.le_refl _), ni s 2 c (Nat.le_refl _), ni s 3 c (Nat.le_refl _), ni s 4 c (Nat.le_refl _)]
        exact cc c q
      · rw [ni s 0 11 (Nat.le_refl _), ni s 0 12 (Nat.le_refl _)]
        exact par
      · obtain ⟨-, u, v, Q⟩ := j3 q hq
        exact ⟨u, v, kx q u v Q⟩
      · rcases j4 u v hu hv with z | ⟨q, q1, q2⟩
        · exact Or.inl z
        · refine Or.inr ⟨q, q1, ?_⟩
          rcases q2 with q2 | q2
          · exact Or.inl (kx _ _ _ q2)
          · exact Or.inr (kx _ _ _ q2)
      · rw [nr 92 _ (by omega) (by omega)]
        exact (b7 (N + q) (by omega) (by omega)).2
    · have hs' : s < S := by omega
      obtain ⟨C', n', F', D⟩ := (a9 s hs').2
      refine ⟨C', n', F', D.x (by omega) (fun o i ho => ?_) (er s hs') (fun i hi => ⟨(l7 i hi).2, ?_⟩)⟩
      · rw [ni s o i (by omega)]
        exact a.2.2.2 s o i (by omega)
      · rw [nr 92 i (by omega) (by omega), (b6 i hi).2, xr]
  · rw [nl 91 i (by omega), nr 92 i (by omega) (by omega)]
    by_cases c : i < N
    · rw [(b6 i c).1, (b6 i c).2, (l7 i c).1, (l7 i c).2, xr, a.2.2.1 91 i (by omega)]
      obtain ⟨q1, q2⟩ := a10 i c
      refine ⟨q1, ?_⟩
      rcases q2 with q | ⟨s, k, q1, q2, q3⟩
      · exact Or.inl q
      · refine Or.inr ⟨s, k, by omega, ?_, ?_⟩
        · unfold rD
          rw [ni s 0 6 (by omega), a.2.2.2 s 0 6 (by omega)]
          exact q2
        · unfold rD
          rw [ni s 0 5 (by omega), a.2.2.2 s 0 5 (by omega)]
          exact q3
    · refine ⟨?_, Or.inr ⟨S, i - N, by omega, ?_, ?_⟩⟩
      · rw [(b7 i (by omega) hi).1]
        have := (j3 (i - N) (by omega)).1
        rw [show N + (i - N) = i by omega] at this
        exact this.symm
      · unfold rD
        rw [ni S 0 6 (Nat.le_refl _)]
        have : rD hx (.inr (S, 0)) 6 = n := j1
        unfold rD at this
        omega
      · unfold rD
        rw [ni S 0 5 (Nat.le_refl _)]
        have : rD hx (.inr (S, 0)) 5 = N := x5
        unfold rD at this
        omega
end RY
/-! ===== questions that both sides answer alike ===== -/
section RAA
variable {h hc hr : mx_H} {S N s i j : Nat} {a x a1 a2 a3 a4 : Int32}
theorem C166 (A : rs_A hc hr S N) : (∃ s : Nat, s < S ∧ a.toInt = (s : Int) ∧ f166 a hc = some s ∧ f177 a hr = 1) ∨ (f166 a hc = none ∧ f177 a hr = 0) := by
  obtain ⟨b1, b2, b3, b4, b5, b6, b7, b8, b9, b10⟩ := A
  have e1 := i_sub b3 k_1 (by omega) (by omega)
  have e2 := i_sub b4 k_1 (by omega) (by omega)
  rw [f166_eq, f177_eq]
  by_cases q : 0 ≤ a.toInt ∧ a.toInt ≤ (S : Int) - 1
  · have ha : a.toInt = ((a.toInt.toNat : Nat) : Int) := by omega
    refine Or.inl ⟨a.toInt.toNat, by omega, ha, ?_, w173_1 rfl k_0 e2 q⟩
    rw [w157_1 rfl k_0 e1 q, if_neg n10, i_cl ha, (b9 a.toInt.toNat (by omega)).1]
    rfl
  · refine Or.inr ⟨?_, w173_0 rfl k_0 e2 q⟩
    rw [w157_0 rfl k_0 e1 q, if_pos rfl]
theorem C164 {C : Nat} (hs : a.toInt = (s : Int)) (h1 : rD hc (.inr (s, 0)) 0 = C) (h2 : rD hr (.inl 106) s = C) (C6 : C ≤ 6) : (∃ c : Nat, c < C ∧ x.toInt = (c : Int) ∧ f164 s x hc = 1 ∧ f178 a x hr = 1) ∨ (f164 s x hc = 0 ∧ f178 a x hr = 0) := by
  have e1 := i_sub h1 k_1 (by omega) (by omega)
  have e2 := i_sub h2 k_1 (by omega) (by omega)
  rw [f164_eq, f178_eq, i_cl hs]
  by_cases q : 0 ≤ x.toInt ∧ x.toInt ≤ (C : Int) - 1
  · refine Or.inl ⟨x.toInt.toNat, by omega, by omega, ?_, w173_1 rfl k_0 e2 q⟩
    rw [w157_1 rfl k_0 e1 q, if_neg n10]
  · refine Or.inr ⟨?_, w173_0 rfl k_0 e2 q⟩
    rw [w157_0 rfl k_0 e1 q, if_pos rfl]
/-- the reference counts its pieces -/
def k_bit (h : mx_H) (s i j : Nat) : Nat := if rz_g h s (6 * i + j) = true then 1 else 0
theorem R183s {m : Nat} (h1 : a1.toInt = (s : Int)) (h2 : a2.toInt = (m : Int)) (h3 : a3.toInt = (i : Int)) (h4 : a4.toInt = (j : Int)) (hs : s ≤ 12) (hi : i < 6) (hj : j < 6) (hm : m ≤ 100) (nn : ∀ p, 0 ≤ rD h (.inl 113) p) :
    ∃ b : Int32, b.toInt = ((m + k_bit h s i j : Nat) : Int) ∧ g183_15 a1 a2 a3 a4 h = g183_15 a1 b a3 (a4 + 1) h := by
  have w := w179 h1 h3 h4 hs hi hj
  rw [g183_15_eq, if_neg (i_nle k_6 h4 (by omega)), f180_eq, i_cl w]
  have n := nn (36 * s + 6 * i + j)
  unfold k_bit rz_g
  rw [show 36 * s + (6 * i + j) = 36 * s + 6 * i + j by omega]
  by_cases z : h.2.1 (.inl 113) (36 * s + 6 * i + j) = 0
  · refine ⟨a2 + 0, ?_, ?_⟩
    · rw [if_neg (by rw [decide_eq_true_iff]; exact fun t => t z), i_add h2 k_0 (by omega) (by omega)]
      omega
    · rw [z, if_pos (show (0 : Int32) ≤ 0 by decide +kernel), if_pos rfl]
  · refine ⟨a2 + 1, ?_, ?_⟩
    · rw [if_pos (by rw [decide_eq_true_iff]; exact z), i_add h2 k_1 (by omega) (by omega)]
      omega
    · have p : ¬ h.2.1 (.inl 113) (36 * s + 6 * i + j) ≤ 0 := fun t => by
        have := Int32.le_iff_toInt_le.mp t
        rw [k_0] at this
        unfold rD at n
        exact z (i_eq (show (h.2.1 (.inl 113) (36 * s + 6 * i + j)).toInt = 0 by omega) k_0 rfl)
      rw [if_neg p, if_neg n10]
def k_row (h : mx_H) (s i : Nat) : Nat → Nat → Nat
  | 0, _ => 0
  | n + 1, j => k_bit h s i j + k_row h s i n (j + 1)
theorem k_bit_1 {h : mx_H} {s i j : Nat} : k_bit h s i j ≤ 1 := by
  unfold k_bit
  split <;> omega
theorem R183r (h1 : a1.toInt = (s : Int)) (h3 : a3.toInt = (i : Int)) (hs : s ≤ 12) (hi : i < 6) (nn : ∀ p, 0 ≤ rD h (.inl 113) p) : ∀ (n j m : Nat) (a2 a4 : Int32), j + n = 6 → m + n ≤ 100 → a2.toInt = (m : Int) → a4.toInt = (j : Int) → ∃ b : Int32, b.toInt = ((m + k_row h s i n j : Nat) : Int) ∧ m + k_row h s i n j ≤ m + n ∧ g183_15 a1 a2 a3 a4 h = g183_4 a1 b (a3 + 1) h
  | 0, j, m, a2, a4, e, hm, h2, h4 => ⟨a2, h2, Nat.le_refl _, by rw [g183_15_eq, if_pos (i_le k_6 h4 (by omega))]⟩
  | n + 1, j, m, a2, a4, e, hm, h2, h4 => by
    obtain ⟨b, b1, b2⟩ := R183s (a2 := a2) h1 h2 h3 h4 hs hi (by omega) (by omega) nn
    have l := k_bit_1 (h := h) (s := s) (i := i) (j := j)
    obtain ⟨d, d1, d2, d3⟩ := R183r h1 h3 hs hi nn n (j + 1) (m + k_bit h s i j) b (a4 + 1) (by omega) (by omega) b1 ((i_add h4 k_1 (by omega) (by omega)).trans (by omega))
    refine ⟨d, ?_, ?_, b2.trans d3⟩
    · rw [d1, show k_row h s i (n + 1) j = k_bit h s i j + k_row h s i n (j + 1) from rfl]
      omega
    · rw [show k_row h s i (n + 1) j = k_bit h s i j + k_row h s i n (j + 1) from rfl]
      omega
end RAA
