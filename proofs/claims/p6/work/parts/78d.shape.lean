/-! ===== shape(): both sides stay alike ===== -/
/-- the tapes are alike -/
def rs_T (hc hr : mx_H) : Prop := ∃ L : Nat, L ≤ 120 ∧ rD hc (.inl 1) 1 = L ∧ rD hr (.inl 105) 16 = L ∧ ∀ i, i < L → rz_b (rD hc (.inl 2) i) (rD hr (.inl 118) i)
section RH
variable {h hc hr hc' hr' gc gr : mx_H} {S N n C k : Nat}
theorem rs_ecF (F : rz_FW S hc hc') {s : Nat} (hs : s < S) : rs_ec s hc hc' := fun o i _ => F.2.2.2 s o i (by omega)
theorem rs_erF (F : rz_FR S hr hr') {s : Nat} (hs : s < S) : rs_er s hr hr' := fun k i w => F.2.2.2 k i (by unfold rs_w at w; unfold rz_w; omega)
theorem rR (h : mx_H) (a : mx_A) (i : Nat) (r : Option mx_A) (b : mx_A) (j : Nat) : (mx_uR h a i r).2.2.2 b j = if b = a ∧ j = i then r else h.2.2.2 b j := rfl
/-- what the relation reads is as it was -/
def rs_u (S : Nat) (h h' : mx_H) : Prop := h'.1 = h.1 ∧ h'.2.2.2 (.inl 0) 3 = h.2.2.2 (.inl 0) 3 ∧ (∀ i, h'.2.2.2 (.inl 3) i = h.2.2.2 (.inl 3) i) ∧ (∀ i, h'.2.2.2 (.inl 92) i = h.2.2.2 (.inl 92) i) ∧ h'.2.1 (.inl 0) 2 = h.2.1 (.inl 0) 2 ∧ h'.2.1 (.inl 90) 0 = h.2.1 (.inl 90) 0 ∧ (∀ i, h'.2.1 (.inl 91) i = h.2.1 (.inl 91) i) ∧ ∀ s, s < S → rs_ec s h h'
def rs_v (S : Nat) (h h' : mx_H) : Prop := h'.2.1 (.inl 105) 1 = h.2.1 (.inl 105) 1 ∧ h'.2.1 (.inl 105) 12 = h.2.1 (.inl 105) 12 ∧ (∀ i, h'.2.1 (.inl 116) i = h.2.1 (.inl 116) i) ∧ (∀ i, h'.2.1 (.inl 117) i = h.2.1 (.inl 117) i) ∧ ∀ s, s < S → rs_er s h h'
theorem rs_A.g (A : rs_A hc hr S N) (a : rs_u S hc hc') (b : rs_v S hr hr') : rs_A hc' hr' S N := by
  obtain ⟨a1, a2, a3, a4, a5, a6, a7, a8, a9, a10⟩ := A
  obtain ⟨u1, u2, u3, u4, u5, u6, u7, u8⟩ := a
  obtain ⟨v1, v2, v3, v4, v5⟩ := b
  refine ⟨a1, a2, ?_, ?_, ?_, ?_, u1.trans a7, u2.trans a8, fun s hs => ⟨(u3 s).trans (a9 s hs).1, ?_⟩, fun i hi => ?_⟩
  · unfold rD
    rw [u5]
    exact a3
  · unfold rD
    rw [v1]
    exact a4
  · unfold rD
    rw [u6]
    exact a5
  · unfold rD
    rw [v2]
    exact a6
  · obtain ⟨C, n, F, D⟩ := (a9 s hs).2
    exact ⟨C, n, F, D.x (Nat.le_refl _) (u8 s hs) (v5 s hs) (fun i _ => ⟨v4 i, u4 i⟩)⟩
  · rw [u7 i, v3 i, v4 i, u4 i]
    obtain ⟨b1, b2⟩ := a10 i hi
    refine ⟨b1, ?_⟩
    rcases b2 with q | ⟨s, k, q1, q2, q3⟩
    · exact Or.inl q
    · refine Or.inr ⟨s, k, q1, ?_, ?_⟩
      · unfold rD
        rw [u8 s q1 0 6 (by omega)]
        exact q2
      · unfold rD
        rw [u8 s q1 0 5 (by omega)]
        exact q3
theorem rz_FW.u (a : rz_FW S hc hc') : rs_u S hc hc' := by
  have e : hc'.2.2.2 = hc.2.2.2 := congrArg Prod.snd a.2.1
  exact ⟨a.1, by rw [e], fun i => by rw [e], fun i => by rw [e], a.2.2.1 0 2 (by omega), a.2.2.1 90 0 (by omega), fun i => a.2.2.1 91 i (by omega), fun s hs => rs_ecF a hs⟩
theorem rz_FR.v (b : rz_FR S hr hr') : rs_v S hr hr' := ⟨b.2.2.2 105 1 (by unfold rz_w; omega), b.2.2.2 105 12 (by unfold rz_w; omega), fun i => b.2.2.2 116 i (by unfold rz_w; omega), fun i => b.2.2.2 117 i (by unfold rz_w; omega), fun s hs => rs_erF b hs⟩
/-- what is read or thrown away in the draft does not matter -/
theorem rs_A.f (A : rs_A hc hr S N) (a : rz_FW S hc hc') (b : rz_FR S hr hr') : rs_A hc' hr' S N := A.g a.u b.v
theorem C103 (hd : h.2.2.2 (.inl 0) 3 = some (.inr (S, 0))) (F : rz_FW S h (f86 S h).2) : f103 h = if (f86 S h).1 < 0 then (if f168 ((f86 S h).2.2.1 (.inr (S, 0)) 6) (f86 S h).2 = 0 then f169 (mx_uI (f86 S h).2 (.inl 1) 1 0) else (-3, (f86 S h).2)) else (-100 - (f86 S h).1, mx_uI (f86 S h).2 (.inl 1) 1 0) := by
  have e : (f86 S h).2.2.2.2 (.inl 0) 3 = some (.inr (S, 0)) := by
    rw [show (f86 S h).2.2.2.2 = h.2.2.2 from congrArg Prod.snd F.2.1]
    exact hd
  rw [f103_eq, hd]
  show (if (f86 S h).1 < 0 then x_opt (ml_sn ((f86 S h).2.2.2.2 (.inl 0) 3)) (fun j5 => if f168 ((f86 S h).2.2.1 (.inr (j5, 0)) 6) (f86 S h).2 = 0 then f169 (mx_uI (f86 S h).2 (.inl 1) 1 0) else (-3, (f86 S h).2)) (0, h) else (-100 - (f86 S h).1, mx_uI (f86 S h).2 (.inl 1) 1 0)) = _
  rw [e]
  rfl
theorem C169 (hd : h.2.2.2 (.inl 0) 3 = some (.inr (S, 0))) : f169 h = g169_16 0 (mx_uI h (.inr (S, 0)) 5 (h.2.1 (.inl 90) 0)) := by
  rw [f169_eq, hd]
  rfl
theorem C168 {a : Int32} {p : Nat} (hs : rD h (.inl 0) 2 = S) (hn : rD h (.inl 90) 0 = N) (ha : a.toInt = (p : Int)) (S12 : S ≤ 12) (N2 : N ≤ 200) (p2 : p ≤ 100) : (S ≤ 11 ∧ N + p ≤ 200 ∧ f168 a h = 0) ∨ (¬ (S ≤ 11 ∧ N + p ≤ 200) ∧ f168 a h = 1) := by
  rw [f168_eq]
  by_cases c : 12 ≤ S
  · rw [if_pos (i_le k_12 hs (by omega))]
    exact Or.inr ⟨by omega, rfl⟩
  · rw [if_neg (i_nle k_12 hs (by omega))]
    have e := i_add hn ha (by omega) (by omega)
    by_cases c2 : N + p ≤ 200
    · rw [if_pos (i_le e k_200 (by omega))]
      exact Or.inl ⟨by omega, c2, rfl⟩
    · rw [if_neg (i_nle e k_200 (by omega))]
      exact Or.inr ⟨by omega, rfl⟩
/-- a shape more -/
theorem rs_more {hx : mx_H} (A : rs_A hc hr S N) (S11 : S ≤ 11) (nn : N + n ≤ 200) (C1 : 1 ≤ C) (K : rz_C hc' hr' S C n) (a : rz_FW S hc hc') (b : rz_FR S hr hr') (o1 : hc'.2.1 (.inr (S, 0)) 11 = -1)
    (hst : ∀ q, 0 ≤ rD hc' (.inr (S, 7)) q) (hX : hx = mx_uI hc' (.inr (S, 0)) 5 (hc'.2.1 (.inl 90) 0)) (B : k_B hx gc N (N + n) S) (R : k_R hc' hr' gr S C N n) : rs_A (k_N gc S) (k_M gr S) (S + 1) (N + n) := by
  obtain ⟨a1, a2, a3, a4, a5, a6, a7, a8, a9, a10⟩ := A
  obtain ⟨C6, k1, k2, k3, k4, k5, k6, kP1, kP2, kP3, kP4⟩ := id K
  obtain ⟨b1, b2, b3, b4, b5, b6, b7⟩ := B
  obtain ⟨r1, r2, r3, r4, r5, r6, r7, r8, r9⟩ := R
  have xl : ∀ q i, hx.2.1 (.inl q) i = hc'.2.1 (.inl q) i := fun q i => by rw [hX]; rfl
  have xr : hx.2.2.2 = hc.2.2.2 := by
    rw [hX]
    exact congrArg Prod.snd a.2.1
  have x0 : ∀ o i, ¬ (o = 0 ∧ i = 5) → hx.2.1 (.inr (S, o)) i = hc'.2.1 (.inr (S, o)) i := fun o i q => by
    rw [hX]
    refine if_neg (fun e => q ⟨?_, e.2⟩)
    have e1 := e.1
    cases e1
    rfl
  have x5 : rD hx (.inr (S, 0)) 5 = N := by
    unfold rD
    rw [hX, rI_s, a.2.2.1 90 0 (by decide)]
    exact a5
  have xs : ∀ s o i, s ≠ S → o < 9 → hx.2.1 (.inr (s, o)) i = hc.2.1 (.inr (s, o)) i := fun s o i q ho => by
    rw [hX]
    refine (if_neg (fun e => q ?_)).trans (a.2.2.2 s o i (by omega))
    have e1 := e.1
    cases e1
    rfl
  have ni : ∀ s o i, s ≤ S → (k_N gc S).2.1 (.inr (s, o)) i = hx.2.1 (.inr (s, o)) i := fun s o i q => by
    show (sn_f (k_G gc S) (S + 1)).2.1 (.inr (s, o)) i = _
    rw [sn_io i (by omega)]
    exact b2 (s, o) i
  have nl : ∀ q i, ¬ (q = 0 ∧ i = 2) → (k_N gc S).2.1 (.inl q) i = gc.2.1 (.inl q) i := fun q i e => by
    show (k_G gc S).2.1 (.inl q) i = _
    exact if_neg (fun z => e ⟨Sum.inl.inj z.1, z.2⟩)
  have nr : ∀ q i, ¬ (q = 0 ∧ i = 3) → ¬ (q = 3 ∧ i = S) → (k_N gc S).2.2.2 (.inl q) i = gc.2.2.2 (.inl q) i := fun q i e1 e2 => by
    refine (if_neg (fun z => e1 ⟨Sum.inl.inj z.1, z.2⟩)).trans ?_
    exact if_neg (fun z => e2 ⟨Sum.inl.inj z.1, z.2⟩)
  have ml : ∀ q i, ¬ (q = 105 ∧ i = 1) → ¬ (q = 114 ∧ i = S) → (k_M gr S).2.1 (.inl q) i = gr.2.1 (.inl q) i := fun q i e1 e2 => by
    refine (if_neg (fun z => e1 ⟨Sum.inl.inj z.1, z.2⟩)).trans ?_
    exact if_neg (fun z => e2 ⟨Sum.inl.inj z.1, z.2⟩)
  have big : ∀ i, i < 36 * S → gr.2.1 (.inl 113) i = hr'.2.1 (.inl 113) i := fun i hi => r9 i (fun q u v _ _ => by omega)
  have pk : ∀ q u v, q < n → rz_k hc' hr' S C q u v → rs_k (k_N gc S) (k_M gr S) S C N q u v := fun q u v hq Q => by
    obtain ⟨p1, p2, p3, p4, p5, p6, p7, p8, p9, p10, p11, p12, p13, p14⟩ := id Q
    obtain ⟨-, z⟩ := r8 q hq
    obtain ⟨z1, z2, z3⟩ := z u v Q
    unfold rs_k rD
    rw [ni S 5 q (Nat.le_refl _), ni S 6 q (Nat.le_refl _), ni S 7 q (Nat.le_refl _), ni S 8 q (Nat.le_refl _), x0 5 q (by omega), x0 6 q (by omega), x0 7 q (by omega), x0 8 q (by omega), ml 113 _ (by omega) (by omega), ml 113 _ (by omega) (by omega), ml 111 _ (by omega) (by omega), ml 111 _ (by omega) (by omega), ml 112 _ (by omega) (by omega), ml 112 _ (by omega) (by omega), ml 117 _ (by omega) (by omega),
      r6 111 _ (by decide) (by decide) (by decide) (by decide), r6 111 _ (by decide) (by decide) (by decide) (by decide), r6 112 _ (by decide) (by decide) (by decide) (by decide), r6 112 _ (by decide) (by decide) (by decide) (by decide)]
    exact ⟨p1, p2, p3, p6, p7, z1, z2, p10, p11, by rw [p12, p14], by rw [p13, p14], z3, by rw [p14, k_0]; exact hst q⟩
  have g113 : ∀ u v, u < 6 → v < 6 → (k_M gr S).2.1 (.inl 113) (36 * S + 6 * u + v) = 0 ∨ ∃ q, q < n ∧ (rs_k (k_N gc S) (k_M gr S) S C N q u v ∨ rs_k (k_N gc S) (k_M gr S) S C N q v u) := fun u v hu hv => by
    rcases kP2 u v hu hv with z | ⟨q, q1, q2⟩
    · refine Or.inl ?_
      rw [ml 113 _ (by omega) (by omega)]
      refine (r9 _ (fun q u' v' hq Q => ?_)).trans z
      have t := rz_kb Q
      refine ⟨fun e => ?_, fun e => ?_⟩
      · rw [e, t.1] at z
        exact n10 z
      · rw [e, t.2] at z
        exact n10 z
    · refine Or.inr ⟨q, q1, ?_⟩
      rcases q2 with q2 | q2
      · exact Or.inl (pk q _ _ q1 q2)
      · exact Or.inr (pk q _ _ q1 q2)
  refine ⟨by omega, nn, ?_, ?_, ?_, ?_, ?_, ?_, fun s hs => ⟨?_, ?_⟩, fun i hi => ?_⟩
  · show (gc.2.1 (.inl 0) 2 + 1).toInt = _
    rw [b3 0 2 (by decide) (by decide), xl, a.2.2.1 0 2 (by decide), i_add a3 k_1 (by omega) (by omega)]
    omega
  · show (gr.2.1 (.inl 105) 1 + 1).toInt = _
    rw [r5 1 (by decide), b.2.2.2 105 1 (by unfold rz_w; omega), i_add a4 k_1 (by omega) (by omega)]
    omega
  · unfold rD
    rw [nl 90 0 (by omega)]
    exact b4
  · unfold rD
    rw [ml 105 12 (by omega) (by omega)]
    exact r4
  · show gc.1 + 9 = _
    rw [b1, show hx.1 = hc.1 by rw [hX]; exact a.1, a7]
    omega
  · exact (rR _ _ _ _ _ _).trans (if_pos ⟨rfl, rfl⟩)
  · by_cases e : s = S
    · subst e
      refine (rR _ _ _ _ _ _).trans ?_
      rw [if_neg (fun z => absurd (Sum.inl.inj z.1) (by decide))]
      show (mx_uR gc (.inl 3) s (some (.inr (s, 0)))).2.2.2 (.inl 3) s = _
      exact (rR _ _ _ _ _ _).trans (if_pos ⟨rfl, rfl⟩)
    · rw [nr 3 s (by omega) (by omega), b5 3 s (by decide), xr]
      exact (a9 s (by omega)).1
  · by_cases e : s = S
    · subst e
      refine ⟨C, n, N, C1, C6, Nat.le_refl _, ?_, ?_, ?_, ?_, fun c q => ?_, ⟨?_, fun z => ?_⟩, fun q hq => ?_, g113, ?_, fun q hq => ?_⟩
      · unfold rD
        rw [ni s 0 0 (Nat.le_refl _), x0 0 0 (by omega)]
        exact k1
      · unfold rD
        rw [ml 106 s (by omega) (by omega), r6 106 s (by decide) (by decide) (by decide) (by decide)]
        exact k2
      · unfold rD
        rw [ni s 0 6 (Nat.le_refl _), x0 0 6 (by omega)]
        exact k3
      · unfold rD
        rw [ni s 0 5 (Nat.le_refl _)]
        exact x5
      · rw [ni s 1 c (Nat.le_refl _), ni s 2 c (Nat.le_refl _), ni s 3 c (Nat.le_refl _), ni s 4 c (Nat.le_refl _), x0 1 c (by omega), x0 2 c (by omega), x0 3 c (by omega), x0 4 c (by omega), ml 107 _ (by omega) (by omega), ml 108 _ (by omega) (by omega), ml 109 _ (by omega) (by omega), ml 110 _ (by omega) (by omega),
          r6 107 _ (by decide) (by decide) (by decide) (by decide), r6 108 _ (by decide) (by decide) (by decide) (by decide), r6 109 _ (by decide) (by decide) (by decide) (by decide), r6 110 _ (by decide) (by decide) (by decide) (by decide)]
        obtain ⟨c1, c2, c3, -, -⟩ := k6 c (by omega)
        exact ⟨k5 c q, c1, c2, c3⟩
      · rw [ni s 0 11 (Nat.le_refl _), x0 0 11 (by omega), o1]
        exact (show (mx_uI gr (.inl 114) s (-1)).2.1 (.inl 114) s = -1 from rI_s).symm
      · exact absurd (show (mx_uI gr (.inl 114) s (-1)).2.1 (.inl 114) s = -1 from rI_s) z
      · obtain ⟨u, v, Q⟩ := kP1 q hq
        exact ⟨u, v, pk q u v hq Q⟩
      · rw [kP3]
        unfold sd_C
        congr 1
        refine List.filter_congr (fun c hc1 => ?_)
        have lt : ∀ c ∈ sd_CL, c < 36 ∧ c / 6 < 6 ∧ c % 6 < 6 := by decide
        obtain ⟨l1, l2, l3⟩ := lt c hc1
        unfold rz_g
        have ec : 36 * s + c = 36 * s + 6 * (c / 6) + c % 6 := by omega
        rw [decide_eq_decide, ec]
        rcases kP2 (c / 6) (c % 6) l2 l3 with z | ⟨q, q1, q2⟩
        · rcases g113 (c / 6) (c % 6) l2 l3 with z2 | ⟨q, q1, q2⟩
          · rw [z, z2]
          · exfalso
            obtain ⟨u, v, Q⟩ := kP1 q q1
            have t := rz_kb Q
            have Q2 := pk q u v q1 Q
            have m1 := Q2.2.2.2.1
            have m2 := Q2.2.2.2.2.1
            rcases q2 with q2 | q2
            · have w1 := q2.2.2.2.1
              have w2 := q2.2.2.2.2.1
              have : (c / 6 = u ∧ c % 6 = v) ∨ (c / 6 = v ∧ c % 6 = u) := by omega
              rcases this with ⟨e1, e2⟩ | ⟨e1, e2⟩
              · rw [e1, e2, t.1] at z
                exact n10 z
              · rw [e1, e2, t.2] at z
                exact n10 z
            · have w1 := q2.2.2.2.1
              have w2 := q2.2.2.2.2.1
              have : (c / 6 = u ∧ c % 6 = v) ∨ (c / 6 = v ∧ c % 6 = u) := by omega
              rcases this with ⟨e1, e2⟩ | ⟨e1, e2⟩
              · rw [e1, e2, t.1] at z
                exact n10 z
              · rw [e1, e2, t.2] at z
                exact n10 z
        · have t : hr'.2.1 (.inl 113) (36 * s + 6 * (c / 6) + c % 6) = 1 := by
            rcases q2 with q2 | q2
            · exact (rz_kb q2).1
            · exact (rz_kb q2).2
          have t2 : ¬ (k_M gr s).2.1 (.inl 113) (36 * s + 6 * (c / 6) + c % 6) = 0 := by
            rcases q2 with q2 | q2
            · exact i_ne (pk q _ _ q1 q2).2.2.2.2.2.1 k_0 (by omega)
            · exact i_ne (pk q _ _ q1 q2).2.2.2.2.2.2.1 k_0 (by omega)
          rw [t]
          exact ⟨fun _ => t2, fun _ => n10⟩
      · rw [nr 92 _ (by omega) (by omega)]
        exact (b7 (N + q) (by omega) (by omega)).2
    · have hs' : s < S := by omega
      obtain ⟨C', n', F', D⟩ := (a9 s hs').2
      refine ⟨C', n', F', D.x (by omega) (fun o i ho => ?_) (fun q i w => ?_) (fun i hi => ⟨?_, ?_⟩)⟩
      · rw [ni s o i (by omega), xs s o i e ho.1]
      · have w' := w
        unfold rs_w at w'
        rw [ml q i (by omega) (by omega)]
        by_cases c : q = 113
        · subst c
          rw [big i (by omega)]
          exact rs_erF b hs' 113 i w
        · rw [r6 q i (by omega) c (by omega) (by omega)]
          exact rs_erF b hs' q i w
      · rw [ml 117 i (by omega) (by omega), (r7 i hi).2]
        exact b.2.2.2 117 i (by unfold rz_w; omega)
      · rw [nr 92 i (by omega) (by omega), (b6 i hi).2, xr]
  · rw [nl 91 i (by omega), ml 116 i (by omega) (by omega), ml 117 i (by omega) (by omega), nr 92 i (by omega) (by omega)]
    by_cases c : i < N
    · rw [(b6 i c).1, (b6 i c).2, (r7 i c).1, (r7 i c).2, xl, xr, a.2.2.1 91 i (by omega), b.2.2.2 116 i (by unfold rz_w; omega), b.2.2.2 117 i (by unfold rz_w; omega)]
      obtain ⟨q1, q2⟩ := a10 i c
      refine ⟨q1, ?_⟩
      rcases q2 with q | ⟨s, k, q1, q2, q3⟩
      · exact Or.inl q
      · refine Or.inr ⟨s, k, by omega, ?_, ?_⟩
        · unfold rD
          rw [ni s 0 6 (by omega), xs s 0 6 (by omega) (by decide)]
          exact q2
        · unfold rD
          rw [ni s 0 5 (by omega), xs s 0 5 (by omega) (by decide)]
          exact q3
    · refine ⟨?_, Or.inr ⟨S, i - N, by omega, ?_, ?_⟩⟩
      · rw [(b7 i (by omega) hi).1]
        have := (r8 (i - N) (by omega)).1
        rw [show N + (i - N) = i by omega] at this
        exact this.symm
      · unfold rD
        rw [ni S 0 6 (Nat.le_refl _), x0 0 6 (by omega)]
        have : rD hc' (.inr (S, 0)) 6 = n := k3
        unfold rD at this
        omega
      · unfold rD
        rw [ni S 0 5 (Nat.le_refl _)]
        have : rD hx (.inr (S, 0)) 5 = N := x5
        unfold rD at this
        omega
end RH
