/-! ===== 84s: still ===== -/
section P84s
variable {hc hr gc gk k : mx_H} {S N C t s b : Nat} {a1 a2 a3 : Int32}
/-- a net stays a net when one more corner is held -/
theorem nt_put (NN : nt_N hc k t C) (V : nt_V k C) (Fc : cm_F hc gc t) (Fk : ∀ a i, a ≠ .inl 134 → a ≠ .inl 136 → ¬ (a = .inl 105 ∧ (i = 37 ∨ i = 42)) → gk.2.1 a i = k.2.1 a i) (c : Nat) : nt_N (mx_uI gc (.inr (t, 33)) c 1) (mx_uI gk (.inl 130) c (vp_nar .boolean 1)) t C ∧ nt_V (mx_uI gk (.inl 130) c (vp_nar .boolean 1)) C := by
  obtain ⟨n1, n2, n3, n4, n5⟩ := NN
  have rc : ∀ o i, o ≠ 33 → o < 35 → ¬ (o = 30 ∧ i = 7) → (mx_uI gc (.inr (t, 33)) c 1).2.1 (.inr (t, o)) i = hc.2.1 (.inr (t, o)) i := fun o i h1 h2 h3 => (rI_a (fun e => by
    cases e
    exact h1 rfl)).trans (Fc.1 _ _ (fun e => by
    cases e
    exact absurd h2 (by decide)) (fun e => by
    obtain ⟨e1, e2⟩ := e
    cases e1
    exact h3 ⟨rfl, e2⟩))
  have rk : ∀ a i, (a = .inl 128 ∨ a = .inl 129 ∨ a = .inl 131) → (mx_uI gk (.inl 130) c (vp_nar .boolean 1)).2.1 a i = k.2.1 a i := fun a i z => by
    rcases z with z | z | z <;> (subst z; exact (rI_a (ne_l (by decide))).trans (Fk _ _ (ne_l (by decide)) (ne_l (by decide)) (fun e => absurd e.1 (ne_l (by decide)))))
  have r8 : ∀ i, rD (mx_uI gk (.inl 130) c (vp_nar .boolean 1)) (.inl 128) i = rD k (.inl 128) i := fun i => congrArg Int32.toInt (rk _ i (Or.inl rfl))
  have r9 : ∀ i, rD (mx_uI gk (.inl 130) c (vp_nar .boolean 1)) (.inl 129) i = rD k (.inl 129) i := fun i => congrArg Int32.toInt (rk _ i (Or.inr (Or.inl rfl)))
  have r1 : ∀ i, rD (mx_uI gk (.inl 130) c (vp_nar .boolean 1)) (.inl 131) i = rD k (.inl 131) i := fun i => congrArg Int32.toInt (rk _ i (Or.inr (Or.inr rfl)))
  have q30 : rD (mx_uI gc (.inr (t, 33)) c 1) (.inr (t, 30)) 0 = rD hc (.inr (t, 30)) 0 := congrArg Int32.toInt (rc 30 0 (by decide) (by decide) (fun e => absurd e.2 (by decide)))
  have q35 : rD (mx_uI gk (.inl 130) c (vp_nar .boolean 1)) (.inl 105) 35 = rD k (.inl 105) 35 := congrArg Int32.toInt ((rI_a (ne_l (by decide))).trans (Fk (.inl 105) 35 (ne_l (by decide)) (ne_l (by decide)) (fun e => absurd e.2 (by decide))))
  refine ⟨⟨n1, q30.trans n2, q35.trans n3, fun i hi => ?_, fun i j hi hj => (rc 34 _ (by decide) (by decide) (fun e => absurd e.1 (by decide))).trans ((n5 i j hi hj).trans (rk _ _ (Or.inr (Or.inr rfl))).symm)⟩, fun i hi => ?_, fun i j hi hj => ?_⟩
  · obtain ⟨m1, m2, m3, m4⟩ := n4 i hi
    refine ⟨(rc 31 i (by decide) (by decide) (fun e => absurd e.1 (by decide))).trans (m1.trans (rk _ i (Or.inl rfl)).symm), ?_, (rc 32 i (by decide) (by decide) (fun e => absurd e.1 (by decide))).trans (m3.trans (rk _ i (Or.inr (Or.inl rfl))).symm), ?_⟩
    · rw [r8]
      exact m2
    · by_cases ic : i = c
      · rw [ic, rI_s, rI_s]
        rfl
      · rw [rI_i ic, rI_i ic, Fk (.inl 130) i (ne_l (by decide)) (ne_l (by decide)) (fun e => absurd e.1 (ne_l (by decide))), Fc.1 (.inr (t, 33)) i (fun e => by cases e) (fun e => by cases e.1)]
        exact m4
  · rw [r8, r9]
    exact V.1 i hi
  · rw [r1, r1]
    exact V.2 i j hi hj
theorem aw_still (I : sf_I hr) (A : rs_A hc hr S N) (st : mi_S hr b) (hb : b + 1 < 2147483647) : (f112 a1 a2 a3 hc).1 = (f222 a1 a2 a3 hr).1 := by
  obtain ⟨A1, A2, A3, A4, A5, A6, A7, A8, A9, A10⟩ := id A
  have K := f112_eq a1 a2 a3 hc
  have T := f222_eq a1 a2 a3 hr
  rcases C166 (a := a1) A with ⟨s, lt, h1, e1, e1'⟩ | ⟨e1, e1'⟩
  · obtain ⟨C, n, F, Ds⟩ := (A9 s lt).2
    obtain ⟨d1, d2, d3, d4, d5, d6, d7, d8, -⟩ := id Ds
    rw [e1] at K
    simp only [x_opt] at K
    rw [if_neg (by rw [e1']; exact n10)] at T
    rcases C164 (x := a2) h1 d4 d5 d2 with ⟨c, ltc, h2, z1, z2⟩ | ⟨z1, z2⟩
    · rw [if_neg (by rw [z1]; exact n10), i_cl h2, (d8 c ltc).2.2.2] at K
      rw [if_neg (by rw [z2]; exact n10), i_cl (w6 h1 h2 (by omega) (by omega))] at T
      by_cases hl : hr.2.1 (.inl 110) (6 * s + c) = 0
      · rw [if_neg (fun z => z hl)] at T
        rcases mk_in (a := a3) with ⟨m1, m2⟩ | ⟨m1, m2, p, q, m3, m4, ⟨m5, m6⟩, m7, m8⟩
        · rw [if_pos m1] at K
          rw [if_neg (fun z => z m2)] at T
          rw [K, T]
        · rw [if_neg (by rw [m1]; exact n10), if_pos hl] at K
          rw [if_pos (by rw [m2]; exact n10)] at T
          obtain ⟨NN, KF, R, R3, R4⟩ := nt_load (t := 0) I A4 lt A1 A2 Ds h1 rfl
          have V := nt_take I A4 lt A1 A2 Ds h1
          have st' := rn_Fs R st
          simp only [x_h, x_let] at K T
          rw [S32c NN V m3 m5 m6 m4 m7 m8] at K
          rw [S214r NN.2.2.1 NN.1 V m3 m4 st' (by omega), i_cl h2] at T
          obtain ⟨s1, s2, s3, s4⟩ := S29 NN V m3 m5 m6 m4 m7 m8
          obtain ⟨r1, r2, r3, r4⟩ := S212 NN.2.2.1 NN.1 V m3 m4 st' (by omega)
          obtain ⟨NN2, V2⟩ := nt_put NN V s1 r4 c
          have st2 : mi_S (mx_uI (f212 (a3 / 10) (a3 - a3 / 10 * 10) (f208 a1 hr)) (.inl 130) c (vp_nar .boolean 1)) (b + 1) := mi_Sf (fun i => rI_a (ne_l (by decide))) (rI_a (ne_l (by decide))) r3
          dsimp only at K T
          rw [S32c NN2 V2 m3 m5 m6 m4 m7 m8] at K
          rw [S214r NN2.2.2.1 NN2.1 V2 m3 m4 st2 hb] at T
          dsimp only at K T
          rw [K, T]
          split
          · rfl
          · split <;> rfl
      · rw [if_pos hl] at T
        by_cases m1 : f158 a3 = 0
        · rw [if_pos m1] at K
          rw [K, T]
        · rw [if_neg m1, if_neg hl] at K
          rw [K, T]
    · rw [if_pos z1] at K
      rw [if_pos z2] at T
      rw [K, T]
  · rw [e1] at K
    simp only [x_opt] at K
    rw [if_pos e1'] at T
    rw [K, T]
end P84s
