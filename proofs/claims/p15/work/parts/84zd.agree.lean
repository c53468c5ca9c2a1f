/-! ===== 84yd: agree, both sides ===== -/
section MYD
variable {hc hr g h h' : mx_H} {S N b n k m : Nat} {a1 a2 a3 a4 x y : Int32}
/-- what was heard, and the RATIOS: alike on both sides -/
def rv_h (hc hr : mx_H) : Prop := ∃ t : Nat, t ≤ 6 ∧ rD hc (.inl 68) 0 = t ∧ rD hr (.inl 105) 65 = t ∧ ∀ i, i < t → hc.2.1 (.inl 69) i = hr.2.1 (.inl 147) i
def rv_r (hc hr : mx_H) : Prop := ∃ t : Nat, t ≤ 6 ∧ rD hc (.inl 80) 0 = t ∧ rD hr (.inl 105) 83 = t ∧ ∀ i, i < t → hc.2.1 (.inl 81) i = hr.2.1 (.inl 158) i ∧ hc.2.1 (.inl 82) i = hr.2.1 (.inl 159) i
theorem sh_neg (h : a1.toInt < 0) (e : (a1 >>> y).toBitVec = a1.toBitVec.sshiftRight k) : ¬ a1 >>> y = 0 := fun z => by
  have e1 : (a1.toBitVec.sshiftRight k).toInt = 0 := by
    rw [← e, z]
    rfl
  rw [BitVec.toInt_sshiftRight, Int.shiftRight_eq_div_pow] at e1
  have p : (0 : Int) < ((2 ^ k : Nat) : Int) := by
    have := Nat.pow_pos (n := k) (show 0 < 2 by decide)
    omega
  have h' : a1.toBitVec.toInt < 0 := h
  have q : a1.toBitVec.toInt / ((2 ^ k : Nat) : Int) < 0 := by
    first
      | exact Int.ediv_neg_of_neg_of_pos h' p
      | exact Int.ediv_neg' h' p
  generalize a1.toBitVec.toInt / ((2 ^ k : Nat) : Int) = w at e1 q
  omega
theorem sh_n (h : a1.toInt < 0) (n2 : 2 ≤ n) (n7 : n ≤ 7) : ¬ a1 >>> ((4 * nI n) &&& 31) = 0 := by
  rcases (show n = 2 ∨ n = 3 ∨ n = 4 ∨ n = 5 ∨ n = 6 ∨ n = 7 by omega) with e | e | e | e | e | e
  · subst e
    rw [show ((4 * nI 2) &&& 31 : Int32) = 8 by decide]
    exact sh_neg (k := 8) h rfl
  · subst e
    rw [show ((4 * nI 3) &&& 31 : Int32) = 12 by decide]
    exact sh_neg (k := 12) h rfl
  · subst e
    rw [show ((4 * nI 4) &&& 31 : Int32) = 16 by decide]
    exact sh_neg (k := 16) h rfl
  · subst e
    rw [show ((4 * nI 5) &&& 31 : Int32) = 20 by decide]
    exact sh_neg (k := 20) h rfl
  · subst e
    rw [show ((4 * nI 6) &&& 31 : Int32) = 24 by decide]
    exact sh_neg (k := 24) h rfl
  · subst e
    rw [show ((4 * nI 7) &&& 31 : Int32) = 28 by decide]
    exact sh_neg (k := 28) h rfl
theorem aw_agree (I : sf_I hr) (A : rs_A hc hr S N) (st : mi_S hr b) (hb : b + 300 < 2147483647) (R : rv_r hc hr) : (f140 a1 a2 a3 a4 hc).1 = (f277 a1 a2 a3 a4 hr).1 := by
  obtain ⟨t, t6, t1, t2, t3⟩ := R
  have K := f140_eq a1 a2 a3 a4 hc
  have T := f277_eq a1 a2 a3 a4 hr
  rw [w_ws, w_ws, w_ws] at K
  by_cases c2 : (2 : Int) ≤ a2.toInt ∧ a2.toInt ≤ 7
  · obtain ⟨n, e2⟩ : ∃ n : Nat, a2.toInt = (n : Int) := ⟨a2.toInt.toNat, by omega⟩
    have n2 : 2 ≤ n := by omega
    have n7 : n ≤ 7 := by omega
    have e2' : a2 = nI n := i_eq e2 (nI_toInt (n := n) (by omega)) rfl
    have w := w173_1 (x := a2) rfl k_2 (show (7 : Int32).toInt = 7 from rfl) c2
    rw [w, if_neg n10] at K T
    subst e2'
    by_cases z : a1 >>> ((4 * nI n) &&& 31) = 0
    · have pos : ¬ a1 < 0 := fun q => sh_n (Int32.lt_iff_toInt_lt.mp q) n2 n7 z
      rw [if_pos z] at K
      rw [if_neg pos, if_pos z] at T
      by_cases c3 : f173 a3 0 9999 = 0
      · rw [if_pos c3] at K T
        rw [K, T]
      · rw [if_neg c3] at K T
        by_cases c4 : f173 a4 0 1 = 0
        · rw [if_neg (fun q => q c4)] at K
          rw [if_pos c4] at T
          rw [K, T]
        · rw [if_pos c4] at K
          rw [if_neg c4] at T
          rw [K, T]
          have I' := nl_of I A.2.2.2.1
          have Kc := S140 (a1 := a1) (a3 := a3) (a4 := a4) A I' n7 n 0 (g := hc) (by omega) ⟨nl_G.refl, fun _ _ _ => rfl, fun i hi => absurd hi (Nat.not_lt_zero _)⟩
          have Rc := R48 (a1 := a1) (a3 := a3) (a4 := a4) A n7 n 0 (g := hr) (by omega) ⟨fun _ _ _ => rfl, fun i hi => absurd hi (Nat.not_lt_zero _)⟩
          rw [show (nI 0 : Int32) = 0 from rfl] at Kc Rc
          rcases Kc with ⟨gK, k1, k2, k3⟩ | ⟨k1, i, k2, k3, k4⟩
          · rcases Rc with ⟨g1, r1, r2, r3⟩ | ⟨r1, i, r2, r3, r4⟩
            · rw [k1, r1, g140_46_eq, g277_48_eq, if_pos (Int32.le_refl _), if_pos (Int32.le_refl _)]
              have tk : gK.2.1 (.inl 80) 0 = hc.2.1 (.inl 80) 0 := k2.2.1 80 0 (by decide)
              have tr : g1.2.1 (.inl 105) 83 = hr.2.1 (.inl 105) 83 := r2.1 105 83 (by decide)
              have e1 : (nI n - 1 : Int32).toInt = (n : Int) - 1 := i_sub (nI_toInt (n := n) (by omega)) k_1 (by omega) (by omega)
              rw [tk, tr]
              by_cases q : (n : Int) - 1 ≤ (t : Int)
              · rw [if_pos (show nI n - 1 ≤ hc.2.1 (.inl 80) 0 from i_le e1 t1 q), if_pos (show nI n - 1 ≤ hr.2.1 (.inl 105) 83 from i_le e1 t2 q)]
                obtain ⟨g2, w1, w2⟩ := R116 (a3 := a3) (a4 := a4) A I' n7 (b := b) (by omega) (fun i hi => r3 i (Nat.zero_le _) hi) n 0 (g := g1) (by omega) ⟨fun x i _ q2 _ _ => r2.1 x i q2, fun i _ _ _ => r2.1 105 i (by decide), r2.2, fun i hi => absurd hi (Nat.not_lt_zero _), mi_Sf (fun i => r2.1 136 i (by decide)) (r2.1 105 42 (by decide)) st⟩
                rw [show (nI 0 : Int32) = 0 from rfl] at w1
                rw [w1, g277_116_eq, if_pos (Int32.le_refl _)]
                have E : ag_E gK g2 (ag_t hr a1) n t := ⟨n7, by omega, fun i hi => ⟨k2.2.2 i hi, w2.2.2.2.1 i hi⟩, fun i hi => by
                  rw [k2.2.1 81 i (by decide), k2.2.1 82 i (by decide), w2.1 158 i (by omega) (by decide) (by decide) (by decide), w2.1 159 i (by omega) (by decide) (by decide) (by decide)]
                  exact t3 i hi⟩
                by_cases c5 : a4 ≠ 0
                · rw [if_pos c5, if_pos c5]
                  exact out_e E (by omega)
                · rw [if_neg c5, if_neg c5, f55_eq]
                  exact (agr_e E (n - 1) 0 0 (by omega)).symm
              · rw [if_neg (show ¬ nI n - 1 ≤ hc.2.1 (.inl 80) 0 from i_nle e1 t1 (by omega)), if_neg (show ¬ nI n - 1 ≤ hr.2.1 (.inl 105) 83 from i_nle e1 t2 (by omega))]
            · exact absurd (k3 i r2 r3) r4
          · rcases Rc with ⟨g1, r1, r2, r3⟩ | ⟨r1, i', r2, r3, r4⟩
            · exact absurd (r3 i k2 k3) k4
            · rw [k1, r1]
    · rw [if_neg z] at K T
      rw [K, T]
      split
      · rfl
      · split
        · rfl
        · split
          · rfl
          · rfl
  · have w := w173_0 (x := a2) rfl k_2 (show (7 : Int32).toInt = 7 from rfl) c2
    rw [w, if_pos rfl] at K T
    rw [K, T]
end MYD
