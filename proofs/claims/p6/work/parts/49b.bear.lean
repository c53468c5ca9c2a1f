/-! ===== reference: bear, exactly; what it keeps ===== -/
def sx_b (h : mx_H) (S A B N : Nat) : mx_H := mx_uI (sx_p (sx_p (mx_uI (mx_uI h (.inl 116) N 1) (.inl 117) N (nI (36 * S + 6 * A + B + 1))) (36 * S + 6 * A + B) (nI (N + 1)) (h.2.1 (.inl 111) (36 * S + 6 * A + B)) (h.2.1 (.inl 112) (36 * S + 6 * A + B))) (36 * S + 6 * B + A) (nI (N + 1)) (h.2.1 (.inl 111) (36 * S + 6 * A + B)) (h.2.1 (.inl 112) (36 * S + 6 * A + B))) (.inl 105) 12 (nI (N + 1))
theorem sx193 {E : mx_Ev} {d : Nat} {h : mx_H} {Q : Option mx_V → mx_H → Prop} {S A B N : Nat} (hS : S ≤ 12) (hA : A < 6) (hB : B < 6) (hb : h.2.1 (.inl 105) 12 = nI N) (hN : N < 200) (hQ : Q none (sx_b h S A B N)) : mx_C E (mx_fn true) (d + 2) 193 [.inr (.inl 105), .inl (.int (nI S)), .inl (.int (nI A)), .inl (.int (nI B))] h Q := by
  have vN : vp_in (nI N) 200 := vp_in_nI hN (by decide)
  have v1 : vp_in (nI (36 * S + 6 * A + B)) 468 := vp_in_nI (by omega) (by decide)
  refine sg193_0 ⟨by rw [hb]; exact vN, sg179_0 (hx_i ?_)⟩
  rw [nI_36]
  have e1 : (mx_uI h (.inl 116) (Int32.toNatClampNeg (h.2.1 (.inl 105) 12)) 1).2.1 (.inl 105) 12 = nI N := hb
  rw [e1]
  refine ⟨vN, sg179_0 (hx_i ?_)⟩
  rw [nI_36]
  refine ⟨v1, sg179_0 (hx_i ?_)⟩
  rw [nI_36]
  refine ⟨v1, ?_⟩
  rw [nI_clamp (show 36 * S + 6 * A + B < 2 ^ 31 by omega), nI_clamp (show N < 2 ^ 31 by omega)]
  refine sx181 hS (by omega) (by omega) (hx_n ?_)
  have e2 : ∀ w : Int32, (mx_uI (mx_uI h (.inl 116) (Int32.toNatClampNeg (h.2.1 (.inl 105) 12)) 1) (.inl 117) N w).2.1 (.inl 105) 12 = nI N := fun w => hb
  rw [e2, nI_1, nI_1, hb, nI_clamp (show N < 2 ^ 31 by omega)]
  have e3 : ∀ (k : mx_H) (b1 b2 s1 s2 c1 c2 : Int32) (p q : Nat), (sx_p (sx_p k p b1 s1 c1) q b2 s2 c2).2.1 (.inl 105) 12 = k.2.1 (.inl 105) 12 := fun _ _ _ _ _ _ _ _ _ => rfl
  rw [e3]
  have e4 : ∀ w : Int32, (mx_uI (mx_uI h (.inl 116) N 1) (.inl 117) N w).2.1 (.inl 105) 12 = nI N := fun w => hb
  rw [e4, nI_1]
  exact hQ
theorem sx_bE {m : Nat} {h0 h : mx_H} {S A B N : Nat} (h1 : m.testBit 328 = true) (h2 : m.testBit 329 = true) (h3 : m.testBit 325 = true) (h4 : m.testBit 323 = true) (h5 : m.testBit 324 = true) (h6 : m.testBit 236 = true) (hE : sf_E m h0 h) : sf_E m h0 (sx_b h S A B N) :=
  sf_Eu (r := 236) rfl h6 (sf_Ep h3 h4 h5 (sf_Ep h3 h4 h5 (sf_Eu (r := 329) rfl h2 (sf_Eu (r := 328) rfl h1 hE))))
theorem sd_bear {h : mx_H} {S A B N : Nat} (hI : sf_I (sd_u h S)) (hS : S ≤ 11) (hA : A < 6) (hB : B < 6) (hn : A ≠ B) (cA : (A : Int) < (h.2.1 (.inl 106) S).toInt) (cB : (B : Int) < (h.2.1 (.inl 106) S).toInt) (hb : h.2.1 (.inl 105) 12 = nI N) (hN : N < 200) (st1 : 1 ≤ (h.2.1 (.inl 111) (36 * S + 6 * A + B)).toInt)
    (free : ∀ x : Nat, x < N → (h.2.1 (.inl 117) x).toInt ≠ ((36 * S + 6 * A + B : Nat) : Int) + 1 ∧ (h.2.1 (.inl 117) x).toInt ≠ ((36 * S + 6 * B + A : Nat) : Int) + 1) : sf_I (sd_u (sx_b h S A B N) S) := by
  unfold sx_b
  rw [sd_uu (by omega), sd_up, sd_up, sd_uu (by omega), sd_uu (by omega)]
  have hbg : (sd_u h S).2.1 (.inl 105) 12 = nI N := (sd_ur (by omega)).trans hb
  have I1 : sf_I (mx_uI (sd_u h S) (.inl 116) N 1) := sf_uI (r := 328) hI rfl (iv_k (n := 1) rfl) (by decide)
  have I2 : sf_I (mx_uI (mx_uI (sd_u h S) (.inl 116) N 1) (.inl 117) N (nI (36 * S + 6 * A + B + 1))) := by
    refine sf_uJ (r := 329) (lo := 0) (hi := 468) I1 rfl (sf_nI (by omega) (by decide)) (by decide) ?_
    have q := sf_K5at (x := nI N) (v := nI (36 * S + 6 * A + B + 1)) I1 (by rw [sf_ro (by decide), hbg]; exact Int.le_refl _)
    rw [nI_clamp (by omega)] at q
    exact q
  have ps := sf_rd (r := 323) (lo := 0) (hi := 9) hI (.inl 111) (36 * S + 6 * A + B) rfl rfl
  have pc := sf_rd (r := 324) (lo := 0) (hi := 9) hI (.inl 112) (36 * S + 6 * A + B) rfl rfl
  rw [sd_ur (by omega)] at ps pc
  have I3 := sd_set (b := nI (N + 1)) (A := A) (B := B) I2 (show S ≤ 12 by omega) hA hB (sf_nI (by omega) (by decide)) ⟨st1, ps.2⟩ pc (fun x hx => by
    rw [sf_ro (by decide), sf_ro (by decide), hbg, nI_toInt (by omega)] at hx
    rw [sf_roi (show ¬ x = N by omega), sf_ro (by decide), sd_ur (by omega)]
    exact free x (by omega))
  refine sd_pp (S := S) (A := A) (B := B) I3 ?_ ?_ ?_ hn ?_ hN ?_ ?_
  · show ((S : Nat) : Int) < (nI (S + 1)).toInt
    rw [nI_toInt (by omega)]
    omega
  · exact cA
  · exact cB
  · exact hb
  · have e : ∀ (k : mx_H) (b1 b2 s1 s2 c1 c2 : Int32) (p q i : Nat), (sx_p (sx_p k p b1 s1 c1) q b2 s2 c2).2.1 (.inl 117) i = k.2.1 (.inl 117) i := fun _ _ _ _ _ _ _ _ _ _ => rfl
    rw [e, sf_rs, nI_toInt (by omega)]
    omega
  · unfold sx_p
    rw [sf_ro (by decide), sf_ro (by decide)]
    by_cases c : 36 * S + 6 * A + B = 36 * S + 6 * B + A
    · rw [c, sf_rs, nI_toInt (by omega)]
      omega
    · rw [sf_roi c, sf_ro (by decide), sf_ro (by decide), sf_rs, nI_toInt (by omega)]
      omega
