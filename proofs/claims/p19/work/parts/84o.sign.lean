/-! ===== sign changes and zeros of the sums; below, sums ===== -/
section ZO
variable {h g k hc hr : mx_H} {S N C t c n s F b : Nat} {a a1 a2 a3 a4 a5 x y : Int32} {l : Int64} {e : Nat → Int64} {p q : Int}
/-- sign changes: how many so far, and whether the last one that isn't 0 is negative -/
def zc (e : Nat → Int64) : Nat → Nat × Bool
  | 0 => (0, false)
  | k + 1 => if e (k + 1) = 0 then zc e k else if decide (e (k + 1) < 0) = (zc e k).2 then zc e k else ((zc e k).1 + 1, !(zc e k).2)
theorem nI_s (m : Nat) : nI m + 1 = nI (m + 1) := by
  rw [show (1 : Int32) = nI 1 from rfl, nI_add]
/-- the sums of a net, for the marks p and q -/
def ze (k : mx_H) (C : Nat) (p q : Int) (i : Nat) : Int64 := Int64.ofInt (zE (zB (zm k (fl k C) C p q)) (fl k C).length i)
theorem mi_Sf (e1 : ∀ i, g.2.1 (.inl 136) i = h.2.1 (.inl 136) i) (e2 : g.2.1 (.inl 105) 42 = h.2.1 (.inl 105) 42) (st : mi_S h b) : mi_S g b := by
  unfold mi_S rD
  rw [e2]
  refine ⟨st.1, fun i => ?_⟩
  rw [e1]
  exact st.2 i
/-- as many rows as tones -/
theorem fl_195 (h1 : a1.toInt = (s : Int)) (s12 : s ≤ 12) (C6 : C ≤ 6) (hC : rD hr (.inl 106) s = C) (ek : ∀ i, i < C → k.2.1 (.inl 130) i = hr.2.1 (.inl 110) (6 * s + i)) : ∀ (j c : Nat) (x a3 : Int32), c + j = C → a3.toInt = (c : Int) → x = nI (fl k c).length → g195_4 a1 x a3 hr = nI (fl k C).length
  | 0, c, x, a3, e, h3, hx => by
    rw [g195_4_eq, i_cl h1, if_pos (show hr.2.1 (.inl 106) s ≤ a3 from i_le hC h3 (by omega)), hx, show c = C by omega]
  | j + 1, c, x, a3, e, h3, hx => by
    have h3' := (i_add h3 k_1 (by omega) (by omega)).trans (show (c : Int) + 1 = ((c + 1 : Nat) : Int) by omega)
    rw [g195_4_eq, i_cl (w6 h1 h3 s12 (by omega)), i_cl h1, if_neg (show ¬ hr.2.1 (.inl 106) s ≤ a3 from i_nle hC h3 (by omega)), ← ek c (by omega)]
    by_cases z : k.2.1 (.inl 130) c = 0
    · rw [if_pos z]
      refine fl_195 h1 s12 C6 hC ek j (c + 1) _ (a3 + 1) (by omega) h3' ?_
      rw [hx, nI_s, fl, if_pos z, List.length_append]
      rfl
    · rw [if_neg z]
      refine fl_195 h1 s12 C6 hC ek j (c + 1) _ (a3 + 1) (by omega) h3' ?_
      rw [hx, fl, if_neg z]
      exact Int32.add_zero _
end ZO
/-! ===== 84p: the stamp grows by a bounded number in each call ===== -/
/-- limits of loops -/
def gs_K (k : mx_H) : Prop := rD k (.inl 105) 12 ≤ 200 ∧ (0 ≤ rD k (.inl 105) 51 ∧ rD k (.inl 105) 51 ≤ 6) ∧ rD k (.inl 105) 56 ≤ 6 ∧ (0 ≤ rD k (.inl 105) 65 ∧ rD k (.inl 105) 65 ≤ 6) ∧ (∀ i, rD k (.inl 106) i ≤ 6) ∧ (∀ i, rD k (.inl 111) i ≤ 9) ∧ ∀ i, rD k (.inl 142) i ≤ 3
/-- these limits are as in k0 -/
def gs_F (k0 h : mx_H) : Prop := (h.2.1 (.inl 105) 12 = k0.2.1 (.inl 105) 12 ∧ h.2.1 (.inl 105) 51 = k0.2.1 (.inl 105) 51 ∧ h.2.1 (.inl 105) 56 = k0.2.1 (.inl 105) 56 ∧ h.2.1 (.inl 105) 65 = k0.2.1 (.inl 105) 65) ∧ (∀ i, h.2.1 (.inl 106) i = k0.2.1 (.inl 106) i) ∧ (∀ i, h.2.1 (.inl 111) i = k0.2.1 (.inl 111) i) ∧ ∀ i, h.2.1 (.inl 142) i = k0.2.1 (.inl 142) i
def GS (k0 : mx_H) (c : Nat) (h : mx_H) : Prop := gs_K k0 ∧ gs_F k0 h ∧ (c < 2147483647 → mi_S h c)
section P84
variable {k0 h : mx_H} {c : Nat}
theorem mi_S.up {b b' : Nat} (S : mi_S h b) (q : b ≤ b') : mi_S h b' := ⟨⟨S.1.1, Int.le_trans S.1.2 (by omega)⟩, S.2⟩
theorem gs_le {d : Nat} (e : GS k0 c h) (q : c ≤ d) : GS k0 d h := ⟨e.1, e.2.1, fun z => (e.2.2 (by omega)).up q⟩
theorem gs_up {k m : Nat} (e : GS k0 (c + k) h) (q : Nat.ble k m = true) : GS k0 (c + m) h := gs_le e (Nat.add_le_add_left (Nat.le_of_ble_eq_true q) c)
theorem gs_ad {k n m : Nat} (e : GS k0 (c + k + n) h) (q : Nat.ble (k + n) m = true) : GS k0 (c + m) h := gs_le e (Nat.le_trans (Nat.le_of_eq (Nat.add_assoc c k n)) (Nat.add_le_add_left (Nat.le_of_ble_eq_true q) c))
theorem gs_uL {a : mx_A} {i : Nat} {v : Int64} (e : GS k0 c h) : GS k0 c (mx_uL h a i v) := e
def gs_fr (n : Nat) : Bool := !(Nat.beq n 105 || Nat.beq n 106 || Nat.beq n 111 || Nat.beq n 142 || Nat.beq n 136)
def gs_fj (n : Nat) : Bool := !(Nat.beq n 12 || Nat.beq n 51 || Nat.beq n 56 || Nat.beq n 65 || Nat.beq n 42)
theorem gs_fr_ne {n : Nat} (q : gs_fr n = true) : 105 ≠ n ∧ 106 ≠ n ∧ 111 ≠ n ∧ 142 ≠ n ∧ 136 ≠ n := by
  refine ⟨fun z => ?_, fun z => ?_, fun z => ?_, fun z => ?_, fun z => ?_⟩ <;> (rw [← z] at q; exact absurd q (by decide +kernel))
theorem gs_fj_ne {n : Nat} (q : gs_fj n = true) : 12 ≠ n ∧ 51 ≠ n ∧ 56 ≠ n ∧ 65 ≠ n ∧ 42 ≠ n := by
  refine ⟨fun z => ?_, fun z => ?_, fun z => ?_, fun z => ?_, fun z => ?_⟩ <;> (rw [← z] at q; exact absurd q (by decide +kernel))
/-- a heap that reads alike where it matters -/
theorem gs_eq {h' : mx_H} (e : GS k0 c h) (h1 : ∀ j, j = 12 ∨ j = 51 ∨ j = 56 ∨ j = 65 ∨ j = 42 → h'.2.1 (.inl 105) j = h.2.1 (.inl 105) j) (h2 : ∀ i, h'.2.1 (.inl 106) i = h.2.1 (.inl 106) i) (h3 : ∀ i, h'.2.1 (.inl 111) i = h.2.1 (.inl 111) i) (h4 : ∀ i, h'.2.1 (.inl 142) i = h.2.1 (.inl 142) i) (h5 : ∀ i, h'.2.1 (.inl 136) i = h.2.1 (.inl 136) i) : GS k0 c h' := by
  obtain ⟨K, ⟨⟨F1, F2, F3, F4⟩, F5, F6, F7⟩, S⟩ := e
  refine ⟨K, ⟨⟨(h1 _ (Or.inl rfl)).trans F1, (h1 _ (Or.inr (Or.inl rfl))).trans F2, (h1 _ (Or.inr (Or.inr (Or.inl rfl)))).trans F3, (h1 _ (Or.inr (Or.inr (Or.inr (Or.inl rfl))))).trans F4⟩, fun i => (h2 i).trans (F5 i), fun i => (h3 i).trans (F6 i), fun i => (h4 i).trans (F7 i)⟩, fun z => ?_⟩
  obtain ⟨⟨S1, S2⟩, S3⟩ := S z
  have e42 : rD h' (.inl 105) 42 = rD h (.inl 105) 42 := congrArg Int32.toInt (h1 42 (Or.inr (Or.inr (Or.inr (Or.inr rfl)))))
  refine ⟨⟨by rw [e42]; exact S1, by rw [e42]; exact S2⟩, fun i => ?_⟩
  rw [e42]
  have e136 : rD h' (.inl 136) i = rD h (.inl 136) i := congrArg Int32.toInt (h5 i)
  rw [e136]
  exact S3 i
theorem gs_I {n i : Nat} {v : Int32} (q : gs_fr n = true) (e : GS k0 c h) : GS k0 c (mx_uI h (.inl n) i v) := by
  obtain ⟨q1, q2, q3, q4, q5⟩ := gs_fr_ne q
  exact gs_eq e (fun _ _ => rI_a (ne_l q1)) (fun _ => rI_a (ne_l q2)) (fun _ => rI_a (ne_l q3)) (fun _ => rI_a (ne_l q4)) (fun _ => rI_a (ne_l q5))
theorem gs_I5 {j : Nat} {v : Int32} (q : gs_fj j = true) (e : GS k0 c h) : GS k0 c (mx_uI h (.inl 105) j v) := by
  obtain ⟨q1, q2, q3, q4, q5⟩ := gs_fj_ne q
  refine gs_eq e (fun i z => rI_i ?_) (fun _ => rI_a (ne_l (by decide +kernel))) (fun _ => rI_a (ne_l (by decide +kernel))) (fun _ => rI_a (ne_l (by decide +kernel))) (fun _ => rI_a (ne_l (by decide +kernel)))
  rcases z with z | z | z | z | z
  · rw [z]; exact q1
  · rw [z]; exact q2
  · rw [z]; exact q3
  · rw [z]; exact q4
  · rw [z]; exact q5
theorem gs_136 {i : Nat} (e : GS k0 c h) : GS k0 c (mx_uI h (.inl 136) i (h.2.1 (.inl 105) 42)) := by
  obtain ⟨K, F, S⟩ := e
  refine ⟨K, ⟨⟨(rI_a (ne_l (by decide +kernel))).trans F.1.1, (rI_a (ne_l (by decide +kernel))).trans F.1.2.1, (rI_a (ne_l (by decide +kernel))).trans F.1.2.2.1, (rI_a (ne_l (by decide +kernel))).trans F.1.2.2.2⟩, fun i => (rI_a (ne_l (by decide +kernel))).trans (F.2.1 i), fun i => (rI_a (ne_l (by decide +kernel))).trans (F.2.2.1 i), fun i => (rI_a (ne_l (by decide +kernel))).trans (F.2.2.2 i)⟩, fun z => ?_⟩
  obtain ⟨⟨S1, S2⟩, S3⟩ := S z
  have e42 : rD (mx_uI h (.inl 136) i (h.2.1 (.inl 105) 42)) (.inl 105) 42 = rD h (.inl 105) 42 := congrArg Int32.toInt (rI_a (ne_l (by decide +kernel)))
  refine ⟨⟨by rw [e42]; exact S1, by rw [e42]; exact S2⟩, fun j => ?_⟩
  rw [e42]
  by_cases ij : j = i
  · have e1 : rD (mx_uI h (.inl 136) i (h.2.1 (.inl 105) 42)) (.inl 136) j = rD h (.inl 105) 42 := by
      unfold rD
      rw [ij, rI_s]
    rw [e1]
    exact Int.le_refl _
  · have e1 : rD (mx_uI h (.inl 136) i (h.2.1 (.inl 105) 42)) (.inl 136) j = rD h (.inl 136) j := congrArg Int32.toInt (rI_i ij)
    rw [e1]
    exact S3 j
theorem gs_42 (e : GS k0 c h) : GS k0 (c + 1) (mx_uI h (.inl 105) 42 (h.2.1 (.inl 105) 42 + 1)) := by
  obtain ⟨K, F, S⟩ := e
  refine ⟨K, ⟨⟨(rI_i (by decide +kernel)).trans F.1.1, (rI_i (by decide +kernel)).trans F.1.2.1, (rI_i (by decide +kernel)).trans F.1.2.2.1, (rI_i (by decide +kernel)).trans F.1.2.2.2⟩, fun i => (rI_a (ne_l (by decide +kernel))).trans (F.2.1 i), fun i => (rI_a (ne_l (by decide +kernel))).trans (F.2.2.1 i), fun i => (rI_a (ne_l (by decide +kernel))).trans (F.2.2.2 i)⟩, fun z => ?_⟩
  obtain ⟨⟨S1, S2⟩, S3⟩ := S (by omega)
  have e42 : rD (mx_uI h (.inl 105) 42 (h.2.1 (.inl 105) 42 + 1)) (.inl 105) 42 = rD h (.inl 105) 42 + 1 := by
    show ((mx_uI h (.inl 105) 42 (h.2.1 (.inl 105) 42 + 1)).2.1 (.inl 105) 42).toInt = _
    rw [rI_s]
    exact i_add rfl k_1 (by omega) (by omega)
  refine ⟨⟨by rw [e42]; omega, by rw [e42]; omega⟩, fun j => ?_⟩
  have e1 : rD (mx_uI h (.inl 105) 42 (h.2.1 (.inl 105) 42 + 1)) (.inl 136) j = rD h (.inl 136) j := congrArg Int32.toInt (rI_a (ne_l (by decide +kernel)))
  rw [e42, e1]
  have := S3 j
  omega
theorem GS.l12 (e : GS k0 c h) : (h.2.1 (.inl 105) 12).toInt ≤ 200 := by rw [e.2.1.1.1]; exact e.1.1
theorem GS.l51 (e : GS k0 c h) : h.2.1 (.inl 105) 51 = k0.2.1 (.inl 105) 51 := e.2.1.1.2.1
theorem GS.l56 (e : GS k0 c h) : (h.2.1 (.inl 105) 56).toInt ≤ 6 := by rw [e.2.1.1.2.2.1]; exact e.1.2.2.1
theorem GS.l65 (e : GS k0 c h) : 0 ≤ (h.2.1 (.inl 105) 65).toInt ∧ (h.2.1 (.inl 105) 65).toInt ≤ 6 := by rw [e.2.1.1.2.2.2]; exact e.1.2.2.2.1
theorem GS.l106 (e : GS k0 c h) (i : Nat) : (h.2.1 (.inl 106) i).toInt ≤ 6 := by rw [e.2.1.2.1 i]; exact e.1.2.2.2.2.1 i
theorem GS.l111 (e : GS k0 c h) (i : Nat) : (h.2.1 (.inl 111) i).toInt ≤ 9 := by rw [e.2.1.2.2.1 i]; exact e.1.2.2.2.2.2.1 i
theorem GS.l142 (e : GS k0 c h) (i : Nat) : (h.2.1 (.inl 142) i).toInt ≤ 3 := by rw [e.2.1.2.2.2 i]; exact e.1.2.2.2.2.2.2 i
theorem gs_00 {b : Nat} (I : sf_I h) (S : mi_S h b) : GS h b h :=
  ⟨⟨(sf_rd (lo := 0) (hi := 200) (r := 236) I (.inl 105) 12 rfl (by decide +kernel)).2, sf_rd (lo := 0) (hi := 6) (r := 275) I (.inl 105) 51 rfl (by decide +kernel), (sf_rd (lo := 0) (hi := 6) (r := 280) I (.inl 105) 56 rfl (by decide +kernel)).2, sf_rd (lo := 0) (hi := 6) (r := 289) I (.inl 105) 65 rfl (by decide +kernel), fun i => (sf_rd (lo := 0) (hi := 6) (r := 318) I (.inl 106) i rfl (by decide +kernel)).2, fun i => (sf_rd (lo := 0) (hi := 9) (r := 323) I (.inl 111) i rfl (by decide +kernel)).2, fun i => (sf_rd (lo := 0) (hi := 3) (r := 354) I (.inl 142) i rfl (by decide +kernel)).2⟩, ⟨⟨rfl, rfl, rfl, rfl⟩, fun _ => rfl, fun _ => rfl, fun _ => rfl⟩, fun _ => S⟩
theorem gs_lt {i L : Int32} {B : Int} (hB : B ≤ 10000) (h0 : 0 ≤ i.toInt) (hL : L.toInt ≤ B) (q : ¬ L ≤ i) : (i + 1).toInt = i.toInt + 1 ∧ i.toInt < B := by
  have b := i_b i
  have q' : ¬ L.toInt ≤ i.toInt := fun z => q (Int32.le_iff_toInt_le.mpr z)
  exact ⟨i_add rfl k_1 (by omega) (by omega), by omega⟩
theorem gs_s {i : Int32} (h0 : 0 ≤ i.toInt) (h1 : i.toInt < 10000) : (i + 1).toInt = i.toInt + 1 := i_add rfl k_1 (by omega) (by omega)
theorem gs_lt2 {i L : Int32} {B : Int} (hB : B ≤ 10000) (h0 : 1 ≤ i.toInt) (hL : L.toInt ≤ B) (q : ¬ L < i) : (i + 1).toInt = i.toInt + 1 ∧ i.toInt ≤ B := by
  have q' : ¬ L.toInt < i.toInt := fun z => q (Int32.lt_iff_toInt_lt.mpr z)
  exact ⟨i_add rfl k_1 (by omega) (by omega), by omega⟩
theorem gs_z : 0 ≤ (0 : Int32).toInt := by decide +kernel
theorem gs_z0 : (0 : Int32).toInt = 0 := rfl
theorem gs_mid {a b : Int32} {m : Nat} (l : 0 ≤ a.toInt ∧ a.toInt ≤ 100) (u : 0 ≤ b.toInt ∧ b.toInt ≤ 100) (d : b.toInt - a.toInt ≤ 2 ^ m) (q : ¬ b - a ≤ 1) : ∃ m', m = m' + 1 ∧ 0 ≤ ((a + b) / 2).toInt ∧ ((a + b) / 2).toInt ≤ 100 ∧ ((a + b) / 2).toInt - a.toInt ≤ 2 ^ m' ∧ b.toInt - ((a + b) / 2).toInt ≤ 2 ^ m' := by
  have e : (b - a).toInt = b.toInt - a.toInt := i_sub rfl rfl (by omega) (by omega)
  have q' : ¬ (b - a).toInt ≤ 1 := fun z => q (Int32.le_iff_toInt_le.mpr (by rw [show (1 : Int32).toInt = 1 from rfl]; exact z))
  have s : (a + b).toInt = a.toInt + b.toInt := i_add rfl rfl (by omega) (by omega)
  have dv := i_div (x := a + b) (y := 2) (p := (a.toInt + b.toInt).toNat) (q := 2) (by omega) rfl
  cases m with
  | zero => exact absurd d (by omega)
  | succ m =>
    have p2 : (2 : Int) ^ (m + 1) = 2 * 2 ^ m := by rw [Int.pow_succ, Int.mul_comm]
    rw [p2] at d
    refine ⟨m, rfl, by omega, by omega, ?_, ?_⟩ <;> (generalize (2 : Int) ^ m = z at d ⊢; omega)
/-- how many tones: never more than six -/
theorem gs_195 {a1 : Int32} (e : GS k0 c h) : (f195 a1 h).toInt ≤ 6 := by
  rw [f195_eq]
  have G : ∀ (m : Nat) (a2 a3 : Int32), 0 ≤ a3.toInt → (6 - a3.toInt).toNat ≤ m → 0 ≤ a2.toInt → a2.toInt ≤ a3.toInt → a3.toInt ≤ 6 → (g195_4 a1 a2 a3 h).toInt ≤ 6 := by
    intro m
    induction m with
    | zero =>
      intro a2 a3 h0 hm h2 h3 h6
      rw [g195_4_eq, if_pos (Int32.le_iff_toInt_le.mpr (Int.le_trans (e.l106 _) (by omega)))]
      exact Int.le_trans h3 h6
    | succ m ih =>
      intro a2 a3 h0 hm h2 h3 h6
      rw [g195_4_eq]
      by_cases q : h.2.1 (.inl 106) (Int32.toNatClampNeg a1) ≤ a3
      · rw [if_pos q]
        exact Int.le_trans h3 h6
      · rw [if_neg q]
        obtain ⟨n1, n2⟩ := gs_lt (B := 6) (by decide +kernel) h0 (e.l106 _) q
        have n3 := gs_s h2 (by omega)
        split
        · exact ih _ _ (by omega) (by omega) (by omega) (by omega) (by omega)
        · have n4 : (a2 + 0).toInt = a2.toInt := by rw [Int32.add_zero]
          exact ih _ _ (by omega) (by omega) (by omega) (by omega) (by omega)
  exact G 6 0 0 (by decide +kernel) (by decide +kernel) (by decide +kernel) (by decide +kernel) (by decide +kernel)
end P84
