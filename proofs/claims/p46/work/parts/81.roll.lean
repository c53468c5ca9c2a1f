/-! ===== further blows told: how many, on both sides ===== -/
def rt_b (hc hr : mx_H) : Prop := hc.2.1 (.inl 71) 7 = hr.2.1 (.inl 105) 79
def rt_B (h : mx_H) : Prop := rt_b h h
section RTC
variable {h h' hc hr h2 h4 : mx_H} {S N m m1 m2 : Nat} {a1 a2 a3 a4 : Int32}
theorem rt_Bf (b1 : m.testBit 171 = false) (b2 : m.testBit 303 = false) (e : sf_El m h h') (B : rt_B h) : rt_B h' := by
  show h'.2.1 (.inl 71) 7 = h'.2.1 (.inl 105) 79
  rw [e 71 7 b1, e 105 79 b2]
  exact B
theorem rt_Br (b2 : m.testBit 303 = false) (e : sf_El m h h') (B : rt_b hc h) : rt_b hc h' := by
  show hc.2.1 (.inl 71) 7 = h'.2.1 (.inl 105) 79
  rw [e 105 79 b2]
  exact B
theorem rt_Bc (b1 : m.testBit 171 = false) (e : sf_El m h h') (B : rt_b h hr) : rt_b h' hr := by
  show h'.2.1 (.inl 71) 7 = hr.2.1 (.inl 105) 79
  rw [e 71 7 b1]
  exact B
theorem st_roll (I : sf_I hc) (B : rt_b hc hr) : (f132 a1 a2 a3 hc).1 = (f260 a1 a2 a3 hr).1 ∧ rt_b (f132 a1 a2 a3 hc).2 (f260 a1 a2 a3 hr).2 := by
  obtain ⟨b1, b2⟩ := sf_rd (lo := 0) (hi := 6) (r := 171) I (.inl 71) 7 rfl (by decide +kernel)
  have B' : hc.2.1 (.inl 71) 7 = hr.2.1 (.inl 105) 79 := B
  rw [f132_eq, f260_eq, f159_eq, w_ws, w_ws, w_ws]
  by_cases c1 : f173 a1 0 5 = 0
  · rw [if_pos c1, if_pos c1]
    exact ⟨rfl, B⟩
  · rw [if_neg c1, if_neg c1]
    by_cases c2 : f173 a2 (-99) 99 = 0
    · rw [if_pos c2, if_pos c2]
      exact ⟨rfl, B⟩
    · rw [if_neg c2, if_neg c2]
      by_cases c3 : f173 a3 0 99 ≠ 0
      · rw [if_pos c3, if_pos c3]
        by_cases c4 : (hc.2.1 (.inl 71) 7).toInt < 6
        · have l6 : hc.2.1 (.inl 71) 7 < 6 := i_lt rfl k_6 c4
          have e : (f2 a1 a2 a3 hc).2.1 (.inl 71) 7 = hr.2.1 (.inl 105) 79 + 1 := by
            rw [f2_eq, if_pos l6, ← B']
            rfl
          rw [if_pos l6, if_pos (show hr.2.1 (.inl 105) 79 ≠ 6 from fun z => by
            rw [B', z] at c4
            exact absurd c4 (by decide +kernel))]
          exact ⟨e, e⟩
        · rw [if_neg (i_nlt rfl k_6 (by omega)), if_neg (show ¬ hr.2.1 (.inl 105) 79 ≠ 6 from fun z => z (B' ▸ i_eq rfl k_6 (by omega)))]
          exact ⟨rfl, B⟩
      · rw [if_neg c3, if_neg c3]
        exact ⟨rfl, B⟩
theorem ml_itr_inv {σ ρ : Type} {s : σ → σ ⊕ ρ} {P : ρ → Prop} (I : ∀ x r, s x = .inr r → P r) : ∀ (n : Nat) (x : σ) (r : ρ), ml_itr s n x = some r → P r
  | 0, _, _, e => by cases e
  | n + 1, x, r, e => by
    cases es : s x with
    | inl y =>
      rw [ml_itr_i es] at e
      exact ml_itr_inv I n y r e
    | inr q =>
      rw [ml_itr_r es] at e
      cases e
      exact I x r es
theorem ml_wh_inv {σ ρ : Type} [Inhabited ρ] {s : σ → σ ⊕ ρ} {P : ρ → Prop} (hd : P default) (I : ∀ x r, s x = .inr r → P r) (x : σ) : P (ml_wh s x) := by
  by_cases h : ∃ r, ∃ n, ml_itr s n x = some r
  · have e : ml_wh s x = Classical.choose h := dif_pos h
    rw [e]
    obtain ⟨n, hn⟩ := Classical.choose_spec h
    exact ml_itr_inv I n x _ hn
  · have e : ml_wh s x = default := dif_neg h
    rw [e]
    exact hd
theorem R261 {a2 a3 a4 : Int32} : (g261_41 a2 a3 a4 h).2.2.1 (.inl 105) 79 = 0 := by
  unfold g261_41
  refine ml_wh_inv (P := fun r : Int32 × mx_H => r.2.2.1 (.inl 105) 79 = 0) rfl (fun x r e => ?_) _
  rcases x with ⟨b2, b3, b4, g⟩ | ⟨b2, b3, b4, b5, g⟩
  · simp only [b261] at e
    split at e
    · cases e
      exact rI_s
    · cases e
  · simp only [b261, x_let] at e
    split at e
    · cases e
    · split at e
      · cases e
      · split at e
        · cases e
        · split at e
          · cases e
          · cases e
theorem st_rolled (A : rs_A hc hr S N) (B : rt_b hc hr) : rt_b (f133 a1 a2 hc).2 (f261 a1 a2 hr).2 := by
  have B' : hc.2.1 (.inl 71) 7 = hr.2.1 (.inl 105) 79 := B
  rw [f133_eq, f261_eq, ← w_ws]
  rcases C166 (a := a1) A with ⟨s, lt, h1, e1, e1'⟩ | ⟨e1, e1'⟩
  · rw [e1, e1', if_neg n10]
    show rt_b (if f157 a2 1 200 ≠ 0 then _ else _ : Int32 × mx_H).2 _
    by_cases c : f157 a2 1 200 ≠ 0
    · rw [if_pos c, if_pos c]
      by_cases c2 : hr.2.1 (.inl 105) 79 ≠ 0
      · rw [B', if_pos c2, if_pos c2]
        refine Eq.trans ?_ R261.symm
        exact rI_s
      · rw [B', if_neg c2, if_neg c2]
        exact B
    · rw [if_neg c, if_neg c]
      exact B
  · rw [e1, e1', if_pos rfl]
    exact B
end RTC
/-! ===== what the law carries; exact answers beside what is safe ===== -/
def rt_Q (h : mx_H) : Prop := rt_R h ∧ rt_B h
set_option maxRecDepth 1000000 in
theorem rt_Q00 : sp_hN.2.1 (.inl 71) 7 = sp_hN.2.1 (.inl 105) 79 := by decide +kernel
theorem rt_Q0 : rt_Q sp_hN := ⟨rt_0, rt_Q00⟩
section RTD
variable {E : mx_Ev} {d n : Nat} {av : List mx_V} {h h2 : mx_H} {Q : Option mx_V → mx_H → Prop} {M : mx_H → Prop} {m : Nat}
theorem rt_Ci {r : Int32 × mx_H} (T : mx_C E (mx_fn true) d n av h (fun v h' => ∃ x, v = some (.inl (.int x)) ∧ sf_I h' ∧ M h')) (X : ∀ k, mx_M E k n av h (fun v h' => v = some (.inl (.int r.1)) ∧ h' = r.2)) (K : sf_I r.2 → M r.2 → Q (some (.inl (.int r.1))) r.2) : mx_C E (mx_fn true) d n av h Q :=
  (T.and X).mono (fun v h' q => by
    obtain ⟨⟨x, -, I, e⟩, e1, e2⟩ := q
    subst e2
    rw [e1]
    exact K I e)
theorem xk_i {r q : Int32 × mx_H} (e : q = r) : xK_i (fun v h' => v = some (.inl (.int r.1)) ∧ h' = r.2) q := by
  subst e
  exact And.intro rfl rfl
theorem xk_ip {r q : Int32} (e : q = r) : xK_ip (fun v h' => v = some (.inl (.int r)) ∧ h' = h) h q := by
  subst e
  exact And.intro rfl rfl
theorem rt_eq {X : Prop} (R : rt_R h) (b : m &&& rt_Mr = 0) (e : sf_El m h h2) (k : ∀ S N, rt_P h h2 S N → X) : X := by
  obtain ⟨S, N, P, -, -⟩ := R
  exact k S N (P.r b e)
theorem rt_Qf {h' : mx_H} (b1 : m &&& rt_Mc = 0) (b2 : m &&& rt_Mr = 0) (b5 : m &&& rt_Ms = 0) (b6 : m &&& rt_Ml = 0) (b3 : m.testBit 171 = false) (b4 : m.testBit 303 = false) (e : sf_E m h h') (R : rt_Q h) : rt_Q h' := ⟨rt_f b1 b2 b5 b6 e R.1, rt_Bf b3 b4 e.l R.2⟩
end RTD
/-! ===== digest: alike ===== -/
section RTF
variable {h hc hr : mx_H} {S N s n C F u v c k : Nat} {a a1 a2 a3 a4 x y : Int32}
theorem dg_c (h1 : a2.toInt = (s : Int)) (s12 : s ≤ 12) (Ds : rs_D hc hr N s C n F) (hb : ∀ i, hr.2.1 (.inl 110) i = 0 ∨ hr.2.1 (.inl 110) i = 1) : ∀ (j c : Nat) (x a3 y : Int32), c + j = C → a3.toInt = (c : Int) → y.toInt = ((6 * s + c : Nat) : Int) → ∃ x', g68_4 s x a3 hc = g68_62 s x' 0 hc ∧ g206_18 x a2 y hr = g206_97 x' a2 0 hr
  | 0, c, x, a3, y, e, ha, hy => by
    have kc := Ds.2.2.2.1
    have kr := Ds.2.2.2.2.1
    have C6 := Ds.2.1
    refine ⟨x, ?_, ?_⟩
    · rw [g68_4_eq, if_pos (i_le kc ha (by omega))]
    · rw [g206_18_eq, i_cl h1, if_pos (i_le (i_add (i_mul k_6 h1 (by omega) (by omega)) kr (by omega) (by omega)) hy (by omega))]
  | j + 1, c, x, a3, y, e, ha, hy => by
    have kc := Ds.2.2.2.1
    have kr := Ds.2.2.2.2.1
    have C6 := Ds.2.1
    obtain ⟨b1, b2, b3, b4⟩ := Ds.2.2.2.2.2.2.2.1 c (by omega)
    have ha1 : (a3 + 1).toInt = ((c + 1 : Nat) : Int) := (i_add ha k_1 (by omega) (by omega)).trans (by omega)
    have hy1 : (y + 1).toInt = ((6 * s + (c + 1) : Nat) : Int) := (i_add hy k_1 (by omega) (by omega)).trans (by omega)
    have E1 : g68_4 s x a3 hc = g68_4 s ((((x * 31 + hr.2.1 (.inl 107) (6 * s + c)) * 31 + hr.2.1 (.inl 108) (6 * s + c)) * 31 + hr.2.1 (.inl 109) (6 * s + c)) * 31 + hr.2.1 (.inl 110) (6 * s + c)) (a3 + 1) hc := by
      rw [g68_4_eq, if_neg (i_nle kc ha (by omega)), i_cl ha, b1, b2, b3, b4]
    have E2 : g206_18 x a2 y hr = g206_18 ((((x * 31 + hr.2.1 (.inl 107) (6 * s + c)) * 31 + hr.2.1 (.inl 108) (6 * s + c)) * 31 + hr.2.1 (.inl 109) (6 * s + c)) * 31 + hr.2.1 (.inl 110) (6 * s + c)) a2 (y + 1) hr := by
      rw [g206_18_eq, i_cl h1, if_neg (i_nle (i_add (i_mul k_6 h1 (by omega) (by omega)) kr (by omega) (by omega)) hy (by omega)), i_cl hy]
      rcases hb (6 * s + c) with z | z
      · rw [if_pos z, z]
      · rw [if_neg (by rw [z]; exact n10), z]
    obtain ⟨x', z1, z2⟩ := dg_c h1 s12 Ds hb j (c + 1) _ (a3 + 1) (y + 1) (by omega) ha1 hy1
    exact ⟨x', E1.trans z1, E2.trans z2⟩
theorem f174_m {u v : Nat} (hx : x.toInt = (u : Int)) (hy : y.toInt = (v : Int)) : (f174 x y).toInt = ((min u v : Nat) : Int) := (f174_v hx hy).trans (by omega)
theorem f175_m {u v : Nat} (hx : x.toInt = (u : Int)) (hy : y.toInt = (v : Int)) : (f175 x y).toInt = ((max u v : Nat) : Int) := by
  rw [f175_eq]
  by_cases t : x ≤ y
  · have t' := Int32.le_iff_toInt_le.mp t
    rw [if_pos t]
    omega
  · have t' : y.toInt < x.toInt := Int.not_le.mp (fun q => t (Int32.le_iff_toInt_le.mpr q))
    rw [if_neg t]
    omega
theorem dg_p (h1 : a2.toInt = (s : Int)) (s12 : s ≤ 12) (N2 : N ≤ 200) (hN : rD hr (.inl 105) 12 = N) (Ds : rs_D hc hr N s C n F) (Hm : ∀ b, b < N → ¬ (F ≤ b ∧ b < F + n) → hr.2.1 (.inl 117) b = 0 ∨ ∃ s' u v : Nat, s' ≤ 12 ∧ s' ≠ s ∧ u < 6 ∧ v < 6 ∧ rD hr (.inl 117) b = ((36 * s' + 6 * u + v + 1 : Nat) : Int)) :
    ∀ (j b k : Nat) (x a3 y : Int32), b + j = N → y.toInt = (b : Int) → a3.toInt = (k : Int) → (b ≤ F ∧ k = 0) ∨ (F < b ∧ b ≤ F + n ∧ k = b - F) ∨ (F + n < b ∧ k = n) → g206_97 x a2 y hr = g206_5 (g68_62 s x a3 hc) (a2 + 1) hr
  | 0, b, k, x, a3, y, e, hy, ha, K => by
    have fn := Ds.2.2.1
    have k6 := Ds.2.2.2.2.2.1
    rw [g206_97_eq, if_pos (i_le hN hy (by omega)), g68_62_eq, if_pos (i_le k6 ha (by omega))]
  | j + 1, b, k, x, a3, y, e, hy, ha, K => by
    have fn := Ds.2.2.1
    have k6 := Ds.2.2.2.2.2.1
    have C6 := Ds.2.1
    have hy1 : (y + 1).toInt = ((b + 1 : Nat) : Int) := (i_add hy k_1 (by omega) (by omega)).trans (by omega)
    by_cases c : F ≤ b ∧ b < F + n
    · have kb : k = b - F := by omega
      obtain ⟨u, v, Q⟩ := Ds.2.2.2.2.2.2.2.2.2.1 k (by omega)
      have q12 := Q.2.2.2.2.2.2.2.2.2.2.2.1
      rw [show F + k = b by omega] at q12
      have u1 := Q.1
      have v1 := Q.2.1
      have t := R278t q12 (show u < 6 by omega) (show v < 6 by omega) s12
      obtain ⟨d1, d2, d3⟩ := R_dec t (show u < 6 by omega) (show v < 6 by omega) s12
      have lo : f174 ((hr.2.1 (.inl 117) b - 1) / 6 - (hr.2.1 (.inl 117) b - 1) / 6 / 6 * 6) (hr.2.1 (.inl 117) b - 1 - (hr.2.1 (.inl 117) b - 1) / 6 * 6) = hc.2.1 (.inr (s, 5)) k := i_eq (f174_m d2 d3) Q.2.2.2.1 rfl
      have hi : f175 ((hr.2.1 (.inl 117) b - 1) / 6 - (hr.2.1 (.inl 117) b - 1) / 6 / 6 * 6) (hr.2.1 (.inl 117) b - 1 - (hr.2.1 (.inl 117) b - 1) / 6 * 6) = hc.2.1 (.inr (s, 6)) k := i_eq (f175_m d2 d3) Q.2.2.2.2.1 rfl
      rw [g206_97_eq, if_neg (i_nle hN hy (by omega)), i_cl hy, if_neg (i_nlt t k_0 (by omega)), if_pos (i_eq d1 h1 rfl), lo, hi, i_cl t, Q.2.2.2.2.2.2.2.1, Q.2.2.2.2.2.2.2.2.2.1]
      rw [g68_62_eq, if_neg (i_nle k6 ha (by omega)), i_cl ha]
      exact dg_p h1 s12 N2 hN Ds Hm j (b + 1) (k + 1) _ (a3 + 1) (y + 1) (by omega) hy1 ((i_add ha k_1 (by omega) (by omega)).trans (by omega)) (by omega)
    · have E : g206_97 x a2 y hr = g206_97 x a2 (y + 1) hr := by
        rw [g206_97_eq, if_neg (i_nle hN hy (by omega)), i_cl hy]
        rcases Hm b (by omega) c with z | ⟨s', u, v, w1, w2, w3, w4, w5⟩
        · rw [z, if_pos (by decide +kernel)]
        · have t := R278t w5 w3 w4 w1
          obtain ⟨d1, d2, d3⟩ := R_dec t w3 w4 w1
          rw [if_neg (i_nlt t k_0 (by omega)), if_neg (i_ne d1 h1 (by omega))]
      rw [E]
      exact dg_p h1 s12 N2 hN Ds Hm j (b + 1) k x a3 (y + 1) (by omega) hy1 ha (by omega)
theorem dg_s (I : sf_I hr) (A : rs_A hc hr S N) : ∀ (j s : Nat) (x y : Int32), s + j = S → y.toInt = (s : Int) → g146_5 x y hc = g206_5 x y hr
  | 0, s, x, y, e, hy => by
    rw [g146_5_eq, if_pos (i_le A.2.2.1 hy (by omega)), g206_5_eq, if_pos (i_le A.2.2.2.1 hy (by omega))]
  | j + 1, s, x, y, e, hy => by
    obtain ⟨A1, A2, A3, A4, A5, A6, A7, A8, A9, A10⟩ := id A
    rcases C166 (a := y) A with ⟨s', lt, h1, e1, e1'⟩ | ⟨e1, e1'⟩
    · have es : s' = s := by omega
      subst es
      obtain ⟨C, n, F, Ds⟩ := (A9 s' lt).2
      have C6 := Ds.2.1
      have hy6 : (6 * y).toInt = ((6 * s' + 0 : Nat) : Int) := (i_mul k_6 hy (by omega) (by omega)).trans (by omega)
      obtain ⟨x', z1, z2⟩ := dg_c hy (by omega) Ds (sf_110 I) C 0 x 0 (6 * y) (by omega) rfl hy6
      have z3 := dg_p (a2 := y) hy (by omega) A2 A6 Ds (rs_Hm A Ds (fun _ _ => rfl)) N 0 0 x' 0 0 (by omega) rfl rfl (Or.inl ⟨by omega, rfl⟩)
      rw [g146_5_eq, if_neg (i_nle A3 hy (by omega)), e1, g206_5_eq, if_neg (i_nle A4 hy (by omega)), z2, z3]
      show g146_5 (f68 s' x hc) (y + 1) hc = _
      rw [f68_eq, z1]
      exact dg_s I A j (s' + 1) _ (y + 1) (by omega) ((i_add hy k_1 (by omega) (by omega)).trans (by omega))
    · exfalso
      rw [f177_eq, w173_1 hy k_0 (i_sub A4 k_1 (by omega) (by omega)) (by omega)] at e1'
      exact n10 e1'
theorem aw_digest (I : sf_I hr) (A : rs_A hc hr S N) : f146 hc = f206 hr := by
  rw [f146_eq, f206_eq]
  exact dg_s I A S 0 7 0 (by omega) rfl
end RTF
/-! ===== the shelves: what they hold, on both sides ===== -/
section RTG
variable {h hc hr : mx_H} {S N s : Nat} {a1 a2 a3 : Int32} {v : Int64}
theorem sh_in (c : ¬ f173 a1 0 5 = 0) : ∃ s : Nat, s < 6 ∧ a1.toInt = (s : Int) := by
  by_cases q : (0 : Int32).toInt ≤ a1.toInt ∧ a1.toInt ≤ (5 : Int32).toInt
  · rw [k_0, k_5] at q
    exact ⟨a1.toInt.toNat, by omega, by omega⟩
  · exact absurd (by rw [w173, if_neg q]) c
theorem st_keep (A : rs_A hc hr S N) (K : rt_S hc hr N) : rt_S (f150 a1 a2 hc).2 (f301 a1 a2 hr).2 N := by
  have e : hc.2.1 (.inl 90) 0 = hr.2.1 (.inl 105) 12 := i_eq A.2.2.2.2.1 A.2.2.2.2.2.1 rfl
  have N2 := A.2.1
  have hN := A.2.2.2.2.2.1
  rw [f150_eq, f301_eq, f161_eq, f300_eq, f163_eq, f283_eq, e, w_ws, w_ws]
  by_cases c1 : f173 a1 0 5 = 0
  · rw [if_pos c1, if_pos c1]
    exact K
  · obtain ⟨t, t6, ht⟩ := sh_in c1
    rw [if_neg c1, if_neg c1, i_cl ht]
    by_cases c2 : a2 = -1
    · rw [if_pos c2, if_pos c2]
      show rt_S (f70 a1 a2 hc) (mx_uI hr (.inl 163) t a2) N
      rw [f70_eq, i_cl ht, c2, if_neg (by decide +kernel)]
      intro s hs
      by_cases es : s = t
      · refine Or.inl ⟨?_, ?_⟩
        · show (mx_uI hc (.inl 95) t (-2)).2.1 (.inl 95) s = -2
          rw [sh_i, if_pos es]
        · rw [sh_i, if_pos es]
      · have r1 : (mx_uI (mx_uI (mx_uI hc (.inl 95) t (-2)) (.inl 97) t (if (-1 : Int32) < 0 then 0 else -1)) (.inl 96) t 0).2.1 (.inl 95) s = hc.2.1 (.inl 95) s := by
          show (mx_uI hc (.inl 95) t (-2)).2.1 (.inl 95) s = _
          rw [sh_i, if_neg es]
        have r2 : (mx_uI (mx_uI (mx_uI hc (.inl 95) t (-2)) (.inl 97) t (if (-1 : Int32) < 0 then 0 else -1)) (.inl 96) t 0).2.1 (.inl 97) s = hc.2.1 (.inl 97) s := by
          show (mx_uI (mx_uI hc (.inl 95) t (-2)) (.inl 97) t (if (-1 : Int32) < 0 then 0 else -1)).2.1 (.inl 97) s = _
          rw [sh_i, if_neg es]
          rfl
        have r3 : (mx_uI (mx_uI (mx_uI hc (.inl 95) t (-2)) (.inl 97) t (if (-1 : Int32) < 0 then 0 else -1)) (.inl 96) t 0).2.1 (.inl 96) s = hc.2.1 (.inl 96) s := by
          rw [sh_i, if_neg es]
          rfl
        have r4 : (mx_uI hr (.inl 163) t (-1)).2.1 (.inl 163) s = hr.2.1 (.inl 163) s := by rw [sh_i, if_neg es]
        unfold rD
        rw [r1, r2, r3, r4]
        exact K s hs
    · rw [if_neg c2, if_neg c2]
      by_cases c3 : f173 a2 0 (hr.2.1 (.inl 105) 12 - 1) ≠ 0
      · rw [if_pos c3, if_pos c3]
        have b : 0 ≤ a2.toInt ∧ a2.toInt ≤ (N : Int) - 1 := Classical.byContradiction fun q => c3 (w173_0 rfl k_0 (i_sub hN k_1 (by omega) (by omega)) q)
        show rt_S (f70 a1 a2 hc) (mx_uI hr (.inl 163) t a2) N
        rw [f70_eq, i_cl ht, if_pos (i_le k_0 rfl b.1), if_neg (i_nlt rfl k_0 b.1)]
        intro s hs
        by_cases es : s = t
        · refine Or.inr (Or.inl ⟨?_, a2.toInt.toNat, by omega, ?_, ?_⟩)
          · show (mx_uI hc (.inl 95) t (-1)).2.1 (.inl 95) s = -1
            rw [sh_i, if_pos es]
          · show ((mx_uI (mx_uI hc (.inl 95) t (-1)) (.inl 97) t a2).2.1 (.inl 97) s).toInt = _
            rw [sh_i, if_pos es]
            omega
          · unfold rD
            rw [sh_i, if_pos es]
            omega
        · have r1 : (mx_uI (mx_uI (mx_uI hc (.inl 95) t (-1)) (.inl 97) t a2) (.inl 96) t 0).2.1 (.inl 95) s = hc.2.1 (.inl 95) s := by
            show (mx_uI hc (.inl 95) t (-1)).2.1 (.inl 95) s = _
            rw [sh_i, if_neg es]
          have r2 : (mx_uI (mx_uI (mx_uI hc (.inl 95) t (-1)) (.inl 97) t a2) (.inl 96) t 0).2.1 (.inl 97) s = hc.2.1 (.inl 97) s := by
            show (mx_uI (mx_uI hc (.inl 95) t (-1)) (.inl 97) t a2).2.1 (.inl 97) s = _
            rw [sh_i, if_neg es]
            rfl
          have r3 : (mx_uI (mx_uI (mx_uI hc (.inl 95) t (-1)) (.inl 97) t a2) (.inl 96) t 0).2.1 (.inl 96) s = hc.2.1 (.inl 96) s := by
            rw [sh_i, if_neg es]
            rfl
          have r4 : (mx_uI hr (.inl 163) t a2).2.1 (.inl 163) s = hr.2.1 (.inl 163) s := by rw [sh_i, if_neg es]
          unfold rD
          rw [r1, r2, r3, r4]
          exact K s hs
      · rw [if_neg c3, if_neg c3]
        exact K
/-- clearing longs leaves the ints -/
theorem C316 {a : mx_A} {w : Int64} {y : Int32} {n : Nat} (hy : y.toInt = (n : Int)) (n60 : n ≤ 1000) : ∀ (j i : Nat) (x : Int32) (h : mx_H), i + j = n → x.toInt = (i : Int) → (g316_6 a w x y h).2.1 = h.2.1
  | 0, i, x, h, e, hx => by rw [g316_6_eq, if_pos (i_le hy hx (by omega))]
  | j + 1, i, x, h, e, hx => by
    rw [g316_6_eq, if_neg (i_nle hy hx (by omega)), C316 hy n60 j (i + 1) (x + 1) _ (by omega) ((i_add hx k_1 (by omega) (by omega)).trans (by omega))]
    rfl
theorem k_60 : (60 : Int32).toInt = 60 := rfl
theorem R302 {t : Nat} (ht : a1.toInt = (t : Int)) (t6 : t < 6) : ∀ (j i : Nat) (x : Int32) (h : mx_H), i + j = 60 → x.toInt = ((60 * t + i : Nat) : Int) → (g302_54 a1 x h).1 = 1 ∧ (g302_54 a1 x h).2.2.1 = h.2.1
  | 0, i, x, h, e, hx => by
    have b := i_add (i_mul k_60 ht (by omega) (by omega)) k_60 (by omega) (by omega)
    rw [g302_54_eq, if_pos (i_le b hx (by omega))]
    exact ⟨rfl, rfl⟩
  | j + 1, i, x, h, e, hx => by
    have b := i_add (i_mul k_60 ht (by omega) (by omega)) k_60 (by omega) (by omega)
    rw [g302_54_eq, if_neg (i_nle b hx (by omega))]
    exact R302 ht t6 j (i + 1) (x + 1) _ (by omega) ((i_add hx k_1 (by omega) (by omega)).trans (by omega))
theorem rt_S.x {hc' hr' : mx_H} (e1 : hc'.2.1 = hc.2.1) (e2 : hr'.2.1 = hr.2.1) (K : rt_S hc hr N) : rt_S hc' hr' N := by
  unfold rt_S rD at K ⊢
  rw [e1, e2]
  exact K
theorem C71 {t : Nat} (ht : a1.toInt = (t : Int)) : (f71 a1 a2 a3 h).2.1 = (mx_uI (mx_uI h (.inl 95) t a2) (.inl 96) t a3).2.1 := by
  rw [f71_eq, i_cl ht]
  generalize mx_uI (mx_uI h (.inl 95) t a2) (.inl 96) t a3 = g
  show (f316 (.inr (t, 20)) 0 g).2.1 = _
  rw [f316_eq]
  have l : (mx_lo (.inr (t, 20))).2 = 60 := rfl
  rw [l]
  exact C316 (n := 60) k_60 (by omega) 60 0 0 g (by omega) rfl
theorem R302r {t : Nat} {g : mx_H} (ht : a1.toInt = (t : Int)) (t6 : t < 6) : (g302_54 a1 (60 * a1) g).2.2.1 = g.2.1 := (R302 ht t6 60 0 (60 * a1) g (by omega) ((i_mul k_60 ht (by omega) (by omega)).trans (by omega))).2
theorem sh_row {t : Nat} (t6 : t < 6) (b : 0 ≤ a2.toInt ∧ a2.toInt ≤ 4) (K : rt_S hc hr N) : rt_S (mx_uI (mx_uI hc (.inl 95) t a2) (.inl 96) t a3) (mx_uI (mx_uI hr (.inl 163) t (-2 - a2)) (.inl 164) t a3) N := fun s hs => by
  have r1 : (mx_uI (mx_uI hc (.inl 95) t a2) (.inl 96) t a3).2.1 (.inl 95) s = if s = t then a2 else hc.2.1 (.inl 95) s := by
    rw [rN (show (95 : Nat) ≠ 96 by decide +kernel)]
    exact sh_i
  have r2 : (mx_uI (mx_uI hc (.inl 95) t a2) (.inl 96) t a3).2.1 (.inl 96) s = if s = t then a3 else hc.2.1 (.inl 96) s := by
    rw [sh_i, rN (show (96 : Nat) ≠ 95 by decide +kernel)]
  have r3 : (mx_uI (mx_uI hc (.inl 95) t a2) (.inl 96) t a3).2.1 (.inl 97) s = hc.2.1 (.inl 97) s := by
    rw [rN (show (97 : Nat) ≠ 96 by decide +kernel), rN (show (97 : Nat) ≠ 95 by decide +kernel)]
  have r4 : (mx_uI (mx_uI hr (.inl 163) t (-2 - a2)) (.inl 164) t a3).2.1 (.inl 163) s = if s = t then -2 - a2 else hr.2.1 (.inl 163) s := by
    rw [rN (show (163 : Nat) ≠ 164 by decide +kernel)]
    exact sh_i
  have r5 : (mx_uI (mx_uI hr (.inl 163) t (-2 - a2)) (.inl 164) t a3).2.1 (.inl 164) s = if s = t then a3 else hr.2.1 (.inl 164) s := by
    rw [sh_i, rN (show (164 : Nat) ≠ 163 by decide +kernel)]
  unfold rD
  rw [r1, r2, r3, r4, r5]
  by_cases es : s = t
  · rw [if_pos es, if_pos es, if_pos es, if_pos es]
    exact Or.inr (Or.inr ⟨a2.toInt.toNat, by omega, by omega, (i_sub k_m2 rfl (by omega) (by omega)).trans (by omega), rfl⟩)
  · rw [if_neg es, if_neg es, if_neg es, if_neg es]
    exact K s hs
theorem st_row (K : rt_S hc hr N) : rt_S (f151 a1 a2 a3 hc).2 (f302 a1 a2 a3 hr).2 N := by
  have L := f151_eq a1 a2 a3 hc
  have T := f302_eq a1 a2 a3 hr
  rw [f161_eq, w_ws, w_ws] at L
  rw [f300_eq] at T
  by_cases c1 : f173 a1 0 5 = 0
  · rw [if_pos c1] at L T
    rw [L, T]
    exact K
  · obtain ⟨t, t6, ht⟩ := sh_in c1
    rw [if_neg c1] at L T
    rw [i_cl ht] at T
    by_cases c2 : f173 a2 0 4 = 0
    · rw [if_pos c2] at L T
      rw [L, T]
      exact K
    · rw [if_neg c2] at L T
      have b : 0 ≤ a2.toInt ∧ a2.toInt ≤ 4 := Classical.byContradiction fun q => c2 (w173_0 rfl k_0 k_4 q)
      by_cases c3 : a3 ≤ 60
      · rw [if_pos c3] at L T
        by_cases c4 : 0 ≤ a3
        · rw [if_pos c4] at L T
          have E1 : (f151 a1 a2 a3 hc).2.2.1 = (mx_uI (mx_uI hc (.inl 95) t a2) (.inl 96) t a3).2.1 := by
            rw [L]
            exact C71 ht
          have E2 : (f302 a1 a2 a3 hr).2.2.1 = (mx_uI (mx_uI hr (.inl 163) t (-2 - a2)) (.inl 164) t a3).2.1 := by
            rw [T]
            exact R302r ht t6
          exact rt_S.x E1 E2 (sh_row t6 b K)
        · rw [if_neg c4] at L T
          rw [L, T]
          exact K
      · rw [if_neg c3] at L T
        rw [L, T]
        exact K
end RTG
