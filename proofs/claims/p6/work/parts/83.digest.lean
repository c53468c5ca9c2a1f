/-! ===== digest: alike ===== -/
section RTF
variable {h hc hr : mx_H} {S N s n C F u v c k : Nat} {a a1 a2 a3 a4 x y : Int32}
theorem dg_c (h1 : a2.toInt = (s : Int)) (s12 : s ≤ 12) (Ds : rs_D hc hr N s C n F) (hb : ∀ i, hr.2.1 (.inl 110) i = 0 ∨ hr.2.1 (.inl 110) i = 1) : ∀ (j c : Nat) (x a3 y : Int32), c + j = C → a3.toInt = (c : Int) → y.toInt = ((6 * s + c : Nat) : Int) → ∃ x', g68_4 s x a3 hc = g68_62 s x' 0 hc ∧ g206_18 x a2 y hr = g206_97 x' a2 0 hr
  | 0, c, x, a3, y, e, ha, hy => by
    have kc := Ds.2.2.2.1
    have kr := Ds.2.2.2.2.1
    have C6 := Ds.2.1
    refine ⟨x, ?_, ?_⟩
    · rw [g68_4_eq, if_pos (i_le kc ha (by omega))]
    · rw [g206_18_eq, i_cl h1, if_pos (i_le (i_add (i_mul k_6 h1 (by omega) (by omega)) kr (by omega) (by omega)) hy (by omega))]
  | j + 1, c, x, a3, y, e, ha, hy => by
    have kc := Ds.2.2.2.1
    have kr := Ds.2.2.2.2.1
    have C6 := Ds.2.1
    obtain ⟨b1, b2, b3, b4⟩ := Ds.2.2.2.2.2.2.2.1 c (by omega)
    have ha1 : (a3 + 1).toInt = ((c + 1 : Nat) : Int) := (i_add ha k_1 (by omega) (by omega)).trans (by omega)
    have hy1 : (y + 1).toInt = ((6 * s + (c + 1) : Nat) : Int) := (i_add hy k_1 (by omega) (by omega)).trans (by omega)
    have E1 : g68_4 s x a3 hc = g68_4 s ((((x * 31 + hr.2.1 (.inl 107) (6 * s + c)) * 31 + hr.2.1 (.inl 108) (6 * s + c)) * 31 + hr.2.1 (.inl 109) (6 * s + c)) * 31 + hr.2.1 (.inl 110) (6 * s + c)) (a3 + 1) hc := by
      rw [g68_4_eq, if_neg (i_nle kc ha (by omega)), i_cl ha, b1, b2, b3, b4]
    have E2 : g206_18 x a2 y hr = g206_18 ((((x * 31 + hr.2.1 (.inl 107) (6 * s + c)) * 31 + hr.2.1 (.inl 108) (6 * s + c)) * 31 + hr.2.1 (.inl 109) (6 * s + c)) * 31 + hr.2.1 (.inl 110) (6 * s + c)) a2 (y + 1) hr := by
      rw [g206_18_eq, i_cl h1, if_neg (i_nle (i_add (i_mul k_6 h1 (by omega) (by omega)) kr (by omega) (by omega)) hy (by omega)), i_cl hy]
      rcases hb (6 * s + c) with z | z
      · rw [if_pos z, z]
      · rw [if_neg (by rw [z]; exact n10), z]
    obtain ⟨x', z1, z2⟩ := dg_c h1 s12 Ds hb j (c + 1) _ (a3 + 1) (y + 1) (by omega) ha1 hy1
    exact ⟨x', E1.trans z1, E2.trans z2⟩
theorem f174_m {u v : Nat} (hx : x.toInt = (u : Int)) (hy : y.toInt = (v : Int)) : (f174 x y).toInt = ((min u v : Nat) : Int) := (f174_v hx hy).trans (by omega)
theorem f175_m {u v : Nat} (hx : x.toInt = (u : Int)) (hy : y.toInt = (v : Int)) : (f175 x y).toInt = ((max u v : Nat) : Int) := by
  rw [f175_eq]
  by_cases t : x ≤ y
  · have t' := Int32.le_iff_toInt_le.mp t
    rw [if_pos t]
    omega
  · have t' : y.toInt < x.toInt := Int.not_le.mp (fun q => t (Int32.le_iff_toInt_le.mpr q))
    rw [if_neg t]
    omega
theorem dg_p (h1 : a2.toInt = (s : Int)) (s12 : s ≤ 12) (N2 : N ≤ 200) (hN : rD hr (.inl 105) 12 = N) (Ds : rs_D hc hr N s C n F) (Hm : ∀ b, b < N → ¬ (F ≤ b ∧ b < F + n) → hr.2.1 (.inl 117) b = 0 ∨ ∃ s' u v : Nat, s' ≤ 12 ∧ s' ≠ s ∧ u < 6 ∧ v < 6 ∧ rD hr (.inl 117) b = ((36 * s' + 6 * u + v + 1 : Nat) : Int)) :
    ∀ (j b k : Nat) (x a3 y : Int32), b + j = N → y.toInt = (b : Int) → a3.toInt = (k : Int) → (b ≤ F ∧ k = 0) ∨ (F < b ∧ b ≤ F + n ∧ k = b - F) ∨ (F + n < b ∧ k = n) → g206_97 x a2 y hr = g206_5 (g68_62 s x a3 hc) (a2 + 1) hr
  | 0, b, k, x, a3, y, e, hy, ha, K => by
    have fn := Ds.2.2.1
    have k6 := Ds.2.2.2.2.2.1
    rw [g206_97_eq, if_pos (i_le hN hy (by omega)), g68_62_eq, if_pos (i_le k6 ha (by omega))]
  | j + 1, b, k, x, a3, y, e, hy, ha, K => by
    have fn := Ds.2.2.1
    have k6 := Ds.2.2.2.2.2.1
    have C6 := Ds.2.1
    have hy1 : (y + 1).toInt = ((b + 1 : Nat) : Int) := (i_add hy k_1 (by omega) (by omega)).trans (by omega)
    by_cases c : F ≤ b ∧ b < F + n
    · have kb : k = b - F := by omega
      obtain ⟨u, v, Q⟩ := Ds.2.2.2.2.2.2.2.2.2.1 k (by omega)
      have q12 := Q.2.2.2.2.2.2.2.2.2.2.2.1
      rw [show F + k = b by omega] at q12
      have u1 := Q.1
      have v1 := Q.2.1
      have t := R278t q12 (show u < 6 by omega) (show v < 6 by omega) s12
      obtain ⟨d1, d2, d3⟩ := R_dec t (show u < 6 by omega) (show v < 6 by omega) s12
      have lo : f174 ((hr.2.1 (.inl 117) b - 1) / 6 - (hr.2.1 (.inl 117) b - 1) / 6 / 6 * 6) (hr.2.1 (.inl 117) b - 1 - (hr.2.1 (.inl 117) b - 1) / 6 * 6) = hc.2.1 (.inr (s, 5)) k := i_eq (f174_m d2 d3) Q.2.2.2.1 rfl
      have hi : f175 ((hr.2.1 (.inl 117) b - 1) / 6 - (hr.2.1 (.inl 117) b - 1) / 6 / 6 * 6) (hr.2.1 (.inl 117) b - 1 - (hr.2.1 (.inl 117) b - 1) / 6 * 6) = hc.2.1 (.inr (s, 6)) k := i_eq (f175_m d2 d3) Q.2.2.2.2.1 rfl
      rw [g206_97_eq, if_neg (i_nle hN hy (by omega)), i_cl hy, if_neg (i_nlt t k_0 (by omega)), if_pos (i_eq d1 h1 rfl), lo, hi, i_cl t, Q.2.2.2.2.2.2.2.1, Q.2.2.2.2.2.2.2.2.2.1]
      rw [g68_62_eq, if_neg (i_nle k6 ha (by omega)), i_cl ha]
      exact dg_p h1 s12 N2 hN Ds Hm j (b + 1) (k + 1) _ (a3 + 1) (y + 1) (by omega) hy1 ((i_add ha k_1 (by omega) (by omega)).trans (by omega)) (by omega)
    · have E : g206_97 x a2 y hr = g206_97 x a2 (y + 1) hr := by
        rw [g206_97_eq, if_neg (i_nle hN hy (by omega)), i_cl hy]
        rcases Hm b (by omega) c with z | ⟨s', u, v, w1, w2, w3, w4, w5⟩
        · rw [z, if_pos (by decide)]
        · have t := R278t w5 w3 w4 w1
          obtain ⟨d1, d2, d3⟩ := R_dec t w3 w4 w1
          rw [if_neg (i_nlt t k_0 (by omega)), if_neg (i_ne d1 h1 (by omega))]
      rw [E]
      exact dg_p h1 s12 N2 hN Ds Hm j (b + 1) k x a3 (y + 1) (by omega) hy1 ha (by omega)
theorem dg_s (I : sf_I hr) (A : rs_A hc hr S N) : ∀ (j s : Nat) (x y : Int32), s + j = S → y.toInt = (s : Int) → g146_5 x y hc = g206_5 x y hr
  | 0, s, x, y, e, hy => by
    rw [g146_5_eq, if_pos (i_le A.2.2.1 hy (by omega)), g206_5_eq, if_pos (i_le A.2.2.2.1 hy (by omega))]
  | j + 1, s, x, y, e, hy => by
    obtain ⟨A1, A2, A3, A4, A5, A6, A7, A8, A9, A10⟩ := id A
    rcases C166 (a := y) A with ⟨s', lt, h1, e1, e1'⟩ | ⟨e1, e1'⟩
    · have es : s' = s := by omega
      subst es
      obtain ⟨C, n, F, Ds⟩ := (A9 s' lt).2
      have C6 := Ds.2.1
      have hy6 : (6 * y).toInt = ((6 * s' + 0 : Nat) : Int) := (i_mul k_6 hy (by omega) (by omega)).trans (by omega)
      obtain ⟨x', z1, z2⟩ := dg_c hy (by omega) Ds (sf_110 I) C 0 x 0 (6 * y) (by omega) rfl hy6
      have z3 := dg_p (a2 := y) hy (by omega) A2 A6 Ds (rs_Hm A Ds (fun _ _ => rfl)) N 0 0 x' 0 0 (by omega) rfl rfl (Or.inl ⟨by omega, rfl⟩)
      rw [g146_5_eq, if_neg (i_nle A3 hy (by omega)), e1, g206_5_eq, if_neg (i_nle A4 hy (by omega)), z2, z3]
      show g146_5 (f68 s' x hc) (y + 1) hc = _
      rw [f68_eq, z1]
      exact dg_s I A j (s' + 1) _ (y + 1) (by omega) ((i_add hy k_1 (by omega) (by omega)).trans (by omega))
    · exfalso
      rw [f177_eq, w173_1 hy k_0 (i_sub A4 k_1 (by omega) (by omega)) (by omega)] at e1'
      exact n10 e1'
theorem aw_digest (I : sf_I hr) (A : rs_A hc hr S N) : f146 hc = f206 hr := by
  rw [f146_eq, f206_eq]
  exact dg_s I A S 0 7 0 (by omega) rfl
end RTF
