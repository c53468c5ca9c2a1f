/-! ===== reference: the bodies of a shape that was read ===== -/
/-- the draft counts as a shape: what holds then -/
theorem sd_GI {h : mx_H} (hI : sf_I h) {S n : Nat} (q1 : (h.2.1 (.inl 105) 1).toInt = S) (q2 : S ≤ 11) (q4 : sd_Gb h S n) : sf_I (sd_u h S) := by
  obtain ⟨d2, d3, d4, dl, dd⟩ := q4
  refine sf_uJ (r := 225) (lo := 0) (hi := 12) hI rfl (sf_nI (by omega) (by decide +kernel)) (by decide +kernel) ?_
  have o : ∀ n i, ¬ (n = 105 ∧ i = 1) → sf_jf (sd_u h S) (.inl n) i = sf_jf h (.inl n) i := fun n i hn => sf_JRo _ _ hn
  have e1 : sf_jf (sd_u h S) (.inl 105) 1 = S + 1 := by
    rw [sf_jfr (r := 225) rfl rfl, sd_us, nI_toInt (by omega)]
    omega
  have e0 : sf_jf h (.inl 105) 1 = S := by
    rw [sf_jfr (r := 225) rfl rfl]
    exact q1
  obtain ⟨k1, k2, k3, k4, k5⟩ := hI.2.2.2
  suffices hR : sf_JR (sf_jf (sd_u h S)) from sf_JwR (by decide +kernel) hI.2.2 hR
  refine ⟨?_, ?_, ?_, ?_, ?_⟩
  · unfold sf_K1 at *
    rw [o 105 24 (by decide +kernel), o 105 25 (by decide +kernel)]
    refine ⟨k1.1, fun k hk => ?_⟩
    rw [o 123 k (by omega), o 124 k (by omega), o 125 k (by omega), o 126 k (by omega)]
    exact k1.2 k hk
  · intro s c hs hc
    rw [e1] at hs
    rw [o 106 s (by omega)] at hc
    rw [o 107 _ (by omega)]
    by_cases e : s = S
    · subst e
      rw [sf_jfr (r := 318) rfl rfl] at hc
      rw [sf_jfr (r := 319) rfl rfl]
      exact d2 c hc
    · exact k2 s c (by omega) hc
  · intro p hp h0
    rw [e1] at hp
    rw [o 113 p (by omega)] at h0
    rw [o 111 p (by omega)]
    by_cases e : p < 36 * S
    · exact k3 p (by omega) h0
    · obtain ⟨r, hr, rfl⟩ : ∃ r, r < 36 ∧ p = 36 * S + r := ⟨p - 36 * S, by omega, by omega⟩
      rw [sf_r1] at h0
      rw [sf_r2]
      exact d3 r hr h0
  · intro s a b hs ha hb
    rw [e1] at hs
    rw [o 113 _ (by omega), o 113 _ (by omega)]
    by_cases e : s = S
    · subst e
      rw [sf_r1, sf_r1, d4 a b ha hb]
    · exact k4 s a b (by omega) ha hb
  · intro b hb h0
    rw [o 105 12 (by decide +kernel)] at hb
    rw [o 117 b (by omega)] at h0 ⊢
    obtain ⟨s, x, y, r1, r2, r3, r4, r5, r6⟩ := k5 b hb h0
    exact ⟨s, x, y, r1, by rw [e1]; omega, by rw [o 106 s (by omega)]; exact r3, by rw [o 106 s (by omega)]; exact r4, r5, by rw [o 113 _ (by omega)]; exact r6⟩
/-- before the first is born no body lies in the draft -/
theorem sd_low {h : mx_H} (hI : sf_I h) {S : Nat} (q1 : (h.2.1 (.inl 105) 1).toInt = S) {x : Nat} (hx : (x : Int) < (h.2.1 (.inl 105) 12).toInt) : (h.2.1 (.inl 117) x).toInt ≤ 36 * (S : Int) := by
  by_cases h0 : 0 < (h.2.1 (.inl 117) x).toInt
  · obtain ⟨s, p, q, r1, r2, r3, r4, r5, r6⟩ := hI.2.2.2.2.2.2.2 x (by rw [sf_bo0]; exact hx) (by rw [sf_bo1]; exact h0)
    have c6 : ∀ s, sf_jf h (.inl 106) s ≤ 6 := fun s => by
      rw [sf_jfr (r := 318) rfl rfl]
      exact (sf_rd (r := 318) (lo := 0) (hi := 6) hI (.inl 106) s rfl rfl).2
    have := c6 s
    rw [sf_bo1] at r1
    rw [sf_jfr (a := .inl 105) (r := 225) rfl rfl, q1] at r2
    omega
  · omega
/-- while bodies are born -/
def sd_Y (h : mx_H) (S n : Nat) (A B : Nat → Nat) (k N : Nat) : Prop := sf_I (sd_u h S) ∧ h.2.1 (.inl 105) 1 = nI S ∧ h.2.1 (.inl 105) 19 = nI n ∧ h.2.1 (.inl 105) 12 = nI N ∧ N + (n - k) ≤ 200 ∧
  (∀ i, i < n → h.2.1 (.inl 119) i = nI (A i) ∧ h.2.1 (.inl 120) i = nI (B i) ∧ A i < 6 ∧ B i < 6 ∧ A i ≠ B i ∧ (A i : Int) < (h.2.1 (.inl 106) S).toInt ∧ (B i : Int) < (h.2.1 (.inl 106) S).toInt ∧ 0 < (h.2.1 (.inl 113) (36 * S + 6 * A i + B i)).toInt) ∧
  (∀ x, x < N → (h.2.1 (.inl 117) x).toInt ≤ 36 * (S : Int) ∨ ∃ i, i < k ∧ (h.2.1 (.inl 117) x).toInt = ((36 * S + 6 * A i + B i : Nat) : Int) + 1)
section SDY
variable {h : mx_H} {S n : Nat} {A B : Nat → Nat} {k N : Nat}
theorem sd_Y.hI (y : sd_Y h S n A B k N) : sf_I (sd_u h S) := y.1
theorem sd_Y.hs (y : sd_Y h S n A B k N) : h.2.1 (.inl 105) 1 = nI S := y.2.1
theorem sd_Y.hn (y : sd_Y h S n A B k N) : h.2.1 (.inl 105) 19 = nI n := y.2.2.1
theorem sd_Y.hb (y : sd_Y h S n A B k N) : h.2.1 (.inl 105) 12 = nI N := y.2.2.2.1
theorem sd_Y.hN (y : sd_Y h S n A B k N) : N + (n - k) ≤ 200 := y.2.2.2.2.1
theorem sd_Y.hl (y : sd_Y h S n A B k N) : ∀ i, i < n → h.2.1 (.inl 119) i = nI (A i) ∧ h.2.1 (.inl 120) i = nI (B i) ∧ A i < 6 ∧ B i < 6 ∧ A i ≠ B i ∧ (A i : Int) < (h.2.1 (.inl 106) S).toInt ∧ (B i : Int) < (h.2.1 (.inl 106) S).toInt ∧ 0 < (h.2.1 (.inl 113) (36 * S + 6 * A i + B i)).toInt := y.2.2.2.2.2.1
theorem sd_Y.hf (y : sd_Y h S n A B k N) : ∀ x, x < N → (h.2.1 (.inl 117) x).toInt ≤ 36 * (S : Int) ∨ ∃ i, i < k ∧ (h.2.1 (.inl 117) x).toInt = ((36 * S + 6 * A i + B i : Nat) : Int) + 1 := y.2.2.2.2.2.2
end SDY
theorem sx_b113 {h : mx_H} {S A B N : Nat} (i : Nat) : (sx_b h S A B N).2.1 (.inl 113) i = if i = 36 * S + 6 * A + B ∨ i = 36 * S + 6 * B + A then nI (N + 1) else h.2.1 (.inl 113) i := by
  unfold sx_b
  rw [sf_ro (by decide +kernel), sd_pr (S := S)]
  rfl
theorem sx_b117 {h : mx_H} {S A B N : Nat} (x : Nat) : (sx_b h S A B N).2.1 (.inl 117) x = if x = N then nI (36 * S + 6 * A + B + 1) else h.2.1 (.inl 117) x := by
  show (mx_uI (mx_uI h (.inl 116) N 1) (.inl 117) N (nI (36 * S + 6 * A + B + 1))).2.1 (.inl 117) x = _
  by_cases c : x = N
  · rw [c, sf_rs, if_pos rfl]
  · rw [sf_roi c, if_neg c]
    rfl
theorem sf194_61 {E : mx_Ev} {d : Nat} {h0 : mx_H} {Q : Option mx_V → mx_H → Prop} {S n : Nat} {A B : Nat → Nat} (hS : S ≤ 11) (hn15 : n ≤ 15) (hd : ∀ k k', k < k' → k' < n → ¬ (A k = A k' ∧ B k = B k') ∧ ¬ (A k = B k' ∧ B k = A k'))
    (hQ : ∀ x h', sf_I h' → sf_E 67530832130916512937480407533443205100368203768325352750423564896418166766327142107240119214255636480 h0 h' → sf_iv (-1000) 11 x → Q (some (.inl (.int x))) h') : ∀ (m k N : Nat) {h : mx_H}, n - k < m → k ≤ n → sd_Y h S n A B k N → sf_E 67530832130916512937480407533443205100368203768325352750423564896418166766327142107240119214255636480 h0 h → mx_T E (mx_fn true) (d + 3) 0 0 194 61 [(0, .inr (.inl 105)), (1, .inl (.int (nI k)))] [] h Q
  | 0, _, _, _, hm, _, _, _ => absurd hm (Nat.not_lt_zero _)
  | m + 1, k, N, h, hm, hk, hY, hE => by
    refine sg194_61 ⟨fun g => ?_, fun g => ?_⟩
    · rw [hY.hn] at g
      have e1 : (mx_uI h (.inl 114) (Int32.toNatClampNeg (h.2.1 (.inl 105) 1)) (-1)).2.1 (.inl 105) 1 = nI S := hY.hs
      rw [e1, nI_1]
      refine ⟨by rw [hY.hs]; exact vp_in_nI (by omega) (by decide +kernel), ?_⟩
      rw [hY.hs, nI_clamp (by omega)]
      refine hQ _ _ ?_ (sf_Eu (r := 225) rfl (by decide +kernel) (sf_Eu (r := 326) rfl (by decide +kernel) hE)) ?_
      · show sf_I (sd_u (mx_uI h (.inl 114) S (-1)) S)
        rw [sd_uu (by omega)]
        exact sf_uI (r := 326) hY.hI rfl ivk_m1 (by decide +kernel)
      · rw [sf_rs, ← nI_1, Int32.add_sub_cancel]
        exact iv_w (a := 0) (b := 11) (sf_nI (by omega) (by decide +kernel)) (by decide +kernel)
    · rw [hY.hn] at g
      have g' := Int32.lt_iff_toInt_lt.mp (Int32.not_le.mp g)
      rw [nI_toInt (by omega), nI_toInt (by omega)] at g'
      have hkn : k < n := by omega
      have v : vp_in (nI k) 15 := vp_in_nI (by omega) (by decide +kernel)
      obtain ⟨l1, l2, l3, l4, l5, l6, l7, l8⟩ := hY.hl k hkn
      have hN := hY.hN
      refine ⟨v, v, ?_⟩
      rw [nI_clamp (by omega), hY.hs, l1, l2]
      have st1 : 1 ≤ (h.2.1 (.inl 111) (36 * S + 6 * A k + B k)).toInt := by
        have k3 := hY.hI.2.2.2.2.2.1 (36 * S + 6 * A k + B k) (by rw [sf_jfr (r := 225) rfl rfl, sd_us, nI_toInt (by omega)]; omega) (by rw [sf_r1, sd_ur (by omega)]; exact l8)
        rw [sf_r2, sd_ur (by omega)] at k3
        exact k3
      have free : ∀ x : Nat, x < N → (h.2.1 (.inl 117) x).toInt ≠ ((36 * S + 6 * A k + B k : Nat) : Int) + 1 ∧ (h.2.1 (.inl 117) x).toInt ≠ ((36 * S + 6 * B k + A k : Nat) : Int) + 1 := fun x hx => by
        rcases hY.hf x hx with f | ⟨i, hi, f⟩
        · omega
        · obtain ⟨-, -, m3, m4, -⟩ := hY.hl i (by omega)
          have dn := hd i k hi hkn
          refine ⟨fun e => ?_, fun e => ?_⟩
          · obtain ⟨-, c2, c3⟩ := sd_dig (s := S) (S := S) m3 m4 l3 l4 (by omega)
            exact dn.1 ⟨c2, c3⟩
          · obtain ⟨-, c2, c3⟩ := sd_dig (s := S) (S := S) m3 m4 l4 l3 (by omega)
            exact dn.2 ⟨c2, c3⟩
      refine sx193 (by omega) l3 l4 hY.hb (by omega) (hx_n ?_)
      rw [nI_1]
      refine sf194_61 hS hn15 hd hQ m (k + 1) (N + 1) (by omega) hkn ?_ (sx_bE (by decide +kernel) (by decide +kernel) (by decide +kernel) (by decide +kernel) (by decide +kernel) (by decide +kernel) hE)
      refine ⟨sd_bear hY.hI hS l3 l4 l5 l6 l7 hY.hb (by omega) st1 free, hY.hs, hY.hn, rfl, by omega, fun i hi => ?_, fun x hx => ?_⟩
      · obtain ⟨m1, m2, m3, m4, m5, m6, m7, m8⟩ := hY.hl i hi
        refine ⟨m1, m2, m3, m4, m5, m6, m7, ?_⟩
        rw [sx_b113]
        by_cases c : 36 * S + 6 * A i + B i = 36 * S + 6 * A k + B k ∨ 36 * S + 6 * A i + B i = 36 * S + 6 * B k + A k
        · rw [if_pos c, nI_toInt (by omega)]
          omega
        · rw [if_neg c]
          exact m8
      · rw [sx_b117]
        by_cases c : x = N
        · rw [if_pos c, nI_toInt (by omega)]
          exact Or.inr ⟨k, by omega, by omega⟩
        · rw [if_neg c]
          rcases hY.hf x (by omega) with f | ⟨i, hi, f⟩
          · exact Or.inl f
          · exact Or.inr ⟨i, by omega, f⟩
/-- from what was read -/
theorem sf194_s {E : mx_Ev} {d : Nat} {h0 h : mx_H} {Q : Option mx_V → mx_H → Prop} (hQ : ∀ x h', sf_I h' → sf_E 67530832130916512937480407533443205100368203768325352750423564896418166766327142107240119214255636480 h0 h' → sf_iv (-1000) 11 x → Q (some (.inl (.int x))) h') (hI : sf_I h) (g : sd_G h) (hN : (h.2.1 (.inl 105) 12).toInt + (h.2.1 (.inl 105) 19).toInt ≤ 200) (hE : sf_E 67530832130916512937480407533443205100368203768325352750423564896418166766327142107240119214255636480 h0 h) : mx_T E (mx_fn true) (d + 3) 0 0 194 61 [(0, .inr (.inl 105)), (1, .inl (.int 0))] [] h Q := by
  obtain ⟨S, n, q1, q2, q3, q4, q5⟩ := g
  have b15 := sd_C_15 (sd_P h S 1000)
  obtain ⟨N, hN2, hb⟩ := sf_of (b := 200) (sf_rd (r := 236) (lo := 0) (hi := 200) hI (.inl 105) 12 rfl rfl)
  rw [hb, nI_toInt (by omega), q3] at hN
  obtain ⟨d2, d3, d4, dl, dd⟩ := id q4
  have eA : ∀ k a : Nat, a < 6 → h.2.1 (.inl 119) k = nI a → (h.2.1 (.inl 119) k).toNatClampNeg = a := fun k a ha e => by rw [e, nI_clamp (by omega)]
  have eB : ∀ k a : Nat, a < 6 → h.2.1 (.inl 120) k = nI a → (h.2.1 (.inl 120) k).toNatClampNeg = a := fun k a ha e => by rw [e, nI_clamp (by omega)]
  refine sf194_61 (S := S) (n := n) (A := fun k => (h.2.1 (.inl 119) k).toNatClampNeg) (B := fun k => (h.2.1 (.inl 120) k).toNatClampNeg) q2 (by omega) (fun k k' hk hk' => ?_) hQ _ 0 N (Nat.lt_succ_self _) (Nat.zero_le _) ⟨sd_GI hI q1 q2 q4, Int32.toInt_inj.mp (by rw [nI_toInt (by omega)]; exact q1), Int32.toInt_inj.mp (by rw [nI_toInt (by omega)]; exact q3), hb, by omega, fun i hi => ?_, fun x hx => Or.inl (sd_low hI q1 (by rw [hb, nI_toInt (by omega)]; omega))⟩ hE
  · obtain ⟨a, b, r1, r2, r3, r4, -⟩ := dl k (by omega)
    obtain ⟨a', b', t1, t2, t3, t4, -⟩ := dl k' hk'
    have := dd k k' hk hk'
    rw [r1, r2, t1, t2] at this
    simp only [eA k a r3 r1, eB k b r4 r2, eA k' a' t3 t1, eB k' b' t4 t2]
    exact ⟨fun c => this.1 ⟨by rw [c.1], by rw [c.2]⟩, fun c => this.2 ⟨by rw [c.1], by rw [c.2]⟩⟩
  · obtain ⟨a, b, r1, r2, r3, r4, r5, r6, r7, r8⟩ := dl i hi
    simp only [eA i a r3 r1, eB i b r4 r2]
    exact ⟨r1, r2, r3, r4, r5, r6, r7, r8⟩
