/-! ===== a shape more, however it was drafted ===== -/
section RY
variable {hc hr hx gc gM : mx_H} {S N n C : Nat}
theorem rs_grow (A : rs_A hc hr S N) (S11 : S ≤ 11) (nn : N + n ≤ 200) (C1 : 1 ≤ C) (a : rz_FW S hc hx) (x5 : rD hx (.inr (S, 0)) 5 = N) (B : k_B hx gc N (N + n) S) (hM : rD gM (.inl 105) 1 = ((S + 1 : Nat) : Int)) (J : rj_J hx gM S C N n) (er : ∀ s, s < S → rs_er s hr gM) (l7 : ∀ i, i < N → gM.2.1 (.inl 116) i = hr.2.1 (.inl 116) i ∧ gM.2.1 (.inl 117) i = hr.2.1 (.inl 117) i)
    (c0 : rD hx (.inr (S, 0)) 0 = C) (r6 : rD gM (.inl 106) S = C) (cc : ∀ c, c < C → hx.2.1 (.inr (S, 1)) c = gM.2.1 (.inl 107) (6 * S + c) ∧ hx.2.1 (.inr (S, 2)) c = gM.2.1 (.inl 108) (6 * S + c) ∧ hx.2.1 (.inr (S, 3)) c = gM.2.1 (.inl 109) (6 * S + c) ∧ hx.2.1 (.inr (S, 4)) c = gM.2.1 (.inl 110) (6 * S + c))
    (par : hx.2.1 (.inr (S, 0)) 11 = gM.2.1 (.inl 114) S ∧ (¬ gM.2.1 (.inl 114) S = -1 → hx.2.1 (.inr (S, 0)) 12 = gM.2.1 (.inl 115) S)) : rs_A (k_N gc S) gM (S + 1) (N + n) := by
  obtain ⟨a1, a2, a3, a4, a5, a6, a7, a8, a9, a10⟩ := A
  obtain ⟨C6, j1, j2, j3, j4, j5⟩ := J
  obtain ⟨b1, b2, b3, b4, b5, b6, b7⟩ := B
  have xr : hx.2.2.2 = hc.2.2.2 := congrArg Prod.snd a.2.1
  have ni : ∀ s o i, s ≤ S → (k_N gc S).2.1 (.inr (s, o)) i = hx.2.1 (.inr (s, o)) i := fun s o i q => by
    show (sn_f (k_G gc S) (S + 1)).2.1 (.inr (s, o)) i = _
    rw [sn_io i (by omega)]
    exact b2 (s, o) i
  have nl : ∀ q i, ¬ (q = 0 ∧ i = 2) → (k_N gc S).2.1 (.inl q) i = gc.2.1 (.inl q) i := fun q i e => by
    show (k_G gc S).2.1 (.inl q) i = _
    exact if_neg (fun z => e ⟨Sum.inl.inj z.1, z.2⟩)
  have nr : ∀ q i, ¬ (q = 0 ∧ i = 3) → ¬ (q = 3 ∧ i = S) → (k_N gc S).2.2.2 (.inl q) i = gc.2.2.2 (.inl q) i := fun q i e1 e2 => by
    refine (if_neg (fun z => e1 ⟨Sum.inl.inj z.1, z.2⟩)).trans ?_
    exact if_neg (fun z => e2 ⟨Sum.inl.inj z.1, z.2⟩)
  have kx : ∀ q u v, rs_k hx gM S C N q u v → rs_k (k_N gc S) gM S C N q u v := fun q u v Q => by
    obtain ⟨o1, o2, o3, o4, o5, o6, o7, o8, o9, o10, o11, o12⟩ := Q
    unfold rs_k rD
    rw [ni S 5 q (Nat.le_refl _), ni S 6 q (Nat.le_refl _), ni S 7 q (Nat.le_refl _), ni S 8 q (Nat.le_refl _)]
    exact ⟨o1, o2, o3, o4, o5, o6, o7, o8, o9, o10, o11, o12⟩
  refine ⟨by omega, nn, ?_, hM, ?_, j2, ?_, ?_, fun s hs => ⟨?_, ?_⟩, fun i hi => ?_⟩
  · show (gc.2.1 (.inl 0) 2 + 1).toInt = _
    rw [b3 0 2 (by decide) (by decide), a.2.2.1 0 2 (by omega), i_add a3 k_1 (by omega) (by omega)]
    omega
  · unfold rD
    rw [nl 90 0 (by omega)]
    exact b4
  · show gc.1 + 9 = _
    rw [b1, a.1, a7]
    omega
  · exact (rR _ _ _ _ _ _).trans (if_pos ⟨rfl, rfl⟩)
  · by_cases e : s = S
    · subst e
      refine (rR _ _ _ _ _ _).trans ?_
      rw [if_neg (fun z => absurd (Sum.inl.inj z.1) (by decide))]
      show (mx_uR gc (.inl 3) s (some (.inr (s, 0)))).2.2.2 (.inl 3) s = _
      exact (rR _ _ _ _ _ _).trans (if_pos ⟨rfl, rfl⟩)
    · rw [nr 3 s (by omega) (by omega), b5 3 s (by decide), xr]
      exact (a9 s (by omega)).1
  · by_cases e : s = S
    · subst e
      refine ⟨C, n, N, C1, C6, Nat.le_refl _, ?_, r6, ?_, ?_, fun c q => ?_, ?_, fun q hq => ?_, fun u v hu hv => ?_, j5, fun q hq => ?_⟩
      · unfold rD
        rw [ni s 0 0 (Nat.le_refl _)]
        exact c0
      · unfold rD
        rw [ni s 0 6 (Nat.le_refl _)]
        exact j1
      · unfold rD
        rw [ni s 0 5 (Nat.le_refl _)]
        exact x5
      · rw [ni s 1 c (Nat.le_refl _), ni s 2 c (Nat.le_refl _), ni s 3 c (Nat.le_refl _), ni s 4 c (Nat.le_refl _)]
        exact cc c q
      · rw [ni s 0 11 (Nat.le_refl _), ni s 0 12 (Nat.le_refl _)]
        exact par
      · obtain ⟨-, u, v, Q⟩ := j3 q hq
        exact ⟨u, v, kx q u v Q⟩
      · rcases j4 u v hu hv with z | ⟨q, q1, q2⟩
        · exact Or.inl z
        · refine Or.inr ⟨q, q1, ?_⟩
          rcases q2 with q2 | q2
          · exact Or.inl (kx _ _ _ q2)
          · exact Or.inr (kx _ _ _ q2)
      · rw [nr 92 _ (by omega) (by omega)]
        exact (b7 (N + q) (by omega) (by omega)).2
    · have hs' : s < S := by omega
      obtain ⟨C', n', F', D⟩ := (a9 s hs').2
      refine ⟨C', n', F', D.x (by omega) (fun o i ho => ?_) (er s hs') (fun i hi => ⟨(l7 i hi).2, ?_⟩)⟩
      · rw [ni s o i (by omega)]
        exact a.2.2.2 s o i (by omega)
      · rw [nr 92 i (by omega) (by omega), (b6 i hi).2, xr]
  · rw [nl 91 i (by omega), nr 92 i (by omega) (by omega)]
    by_cases c : i < N
    · rw [(b6 i c).1, (b6 i c).2, (l7 i c).1, (l7 i c).2, xr, a.2.2.1 91 i (by omega)]
      obtain ⟨q1, q2⟩ := a10 i c
      refine ⟨q1, ?_⟩
      rcases q2 with q | ⟨s, k, q1, q2, q3⟩
      · exact Or.inl q
      · refine Or.inr ⟨s, k, by omega, ?_, ?_⟩
        · unfold rD
          rw [ni s 0 6 (by omega), a.2.2.2 s 0 6 (by omega)]
          exact q2
        · unfold rD
          rw [ni s 0 5 (by omega), a.2.2.2 s 0 5 (by omega)]
          exact q3
    · refine ⟨?_, Or.inr ⟨S, i - N, by omega, ?_, ?_⟩⟩
      · rw [(b7 i (by omega) hi).1]
        have := (j3 (i - N) (by omega)).1
        rw [show N + (i - N) = i by omega] at this
        exact this.symm
      · unfold rD
        rw [ni S 0 6 (Nat.le_refl _)]
        have : rD hx (.inr (S, 0)) 6 = n := j1
        unfold rD at this
        omega
      · unfold rD
        rw [ni S 0 5 (Nat.le_refl _)]
        have : rD hx (.inr (S, 0)) 5 = N := x5
        unfold rD at this
        omega
end RY
