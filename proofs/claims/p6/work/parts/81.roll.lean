/-! ===== further blows told: how many, on both sides ===== -/
def rt_b (hc hr : mx_H) : Prop := hc.2.1 (.inl 71) 7 = hr.2.1 (.inl 105) 79
def rt_B (h : mx_H) : Prop := rt_b h h
section RTC
variable {h h' hc hr h2 h4 : mx_H} {S N m m1 m2 : Nat} {a1 a2 a3 a4 : Int32}
theorem rt_Bf (b1 : m.testBit 171 = false) (b2 : m.testBit 303 = false) (e : sf_El m h h') (B : rt_B h) : rt_B h' := by
  show h'.2.1 (.inl 71) 7 = h'.2.1 (.inl 105) 79
  rw [e 71 7 b1, e 105 79 b2]
  exact B
theorem rt_Br (b2 : m.testBit 303 = false) (e : sf_El m h h') (B : rt_b hc h) : rt_b hc h' := by
  show hc.2.1 (.inl 71) 7 = h'.2.1 (.inl 105) 79
  rw [e 105 79 b2]
  exact B
theorem rt_Bc (b1 : m.testBit 171 = false) (e : sf_El m h h') (B : rt_b h hr) : rt_b h' hr := by
  show h'.2.1 (.inl 71) 7 = hr.2.1 (.inl 105) 79
  rw [e 71 7 b1]
  exact B
theorem st_roll (I : sf_I hc) (B : rt_b hc hr) : (f132 a1 a2 a3 hc).1 = (f260 a1 a2 a3 hr).1 ∧ rt_b (f132 a1 a2 a3 hc).2 (f260 a1 a2 a3 hr).2 := by
  obtain ⟨b1, b2⟩ := sf_rd (lo := 0) (hi := 6) (r := 171) I (.inl 71) 7 rfl (by decide)
  have B' : hc.2.1 (.inl 71) 7 = hr.2.1 (.inl 105) 79 := B
  rw [f132_eq, f260_eq, f159_eq, w_ws, w_ws, w_ws]
  by_cases c1 : f173 a1 0 5 = 0
  · rw [if_pos c1, if_pos c1]
    exact ⟨rfl, B⟩
  · rw [if_neg c1, if_neg c1]
    by_cases c2 : f173 a2 (-99) 99 = 0
    · rw [if_pos c2, if_pos c2]
      exact ⟨rfl, B⟩
    · rw [if_neg c2, if_neg c2]
      by_cases c3 : f173 a3 0 99 ≠ 0
      · rw [if_pos c3, if_pos c3]
        by_cases c4 : (hc.2.1 (.inl 71) 7).toInt < 6
        · have l6 : hc.2.1 (.inl 71) 7 < 6 := i_lt rfl k_6 c4
          have e : (f2 a1 a2 a3 hc).2.1 (.inl 71) 7 = hr.2.1 (.inl 105) 79 + 1 := by
            rw [f2_eq, if_pos l6, ← B']
            rfl
          rw [if_pos l6, if_pos (show hr.2.1 (.inl 105) 79 ≠ 6 from fun z => by
            rw [B', z] at c4
            exact absurd c4 (by decide))]
          exact ⟨e, e⟩
        · rw [if_neg (i_nlt rfl k_6 (by omega)), if_neg (show ¬ hr.2.1 (.inl 105) 79 ≠ 6 from fun z => z (B' ▸ i_eq rfl k_6 (by omega)))]
          exact ⟨rfl, B⟩
      · rw [if_neg c3, if_neg c3]
        exact ⟨rfl, B⟩
theorem ml_itr_inv {σ ρ : Type} {s : σ → σ ⊕ ρ} {P : ρ → Prop} (I : ∀ x r, s x = .inr r → P r) : ∀ (n : Nat) (x : σ) (r : ρ), ml_itr s n x = some r → P r
  | 0, _, _, e => by cases e
  | n + 1, x, r, e => by
    cases es : s x with
    | inl y =>
      rw [ml_itr_i es] at e
      exact ml_itr_inv I n y r e
    | inr q =>
      rw [ml_itr_r es] at e
      cases e
      exact I x r es
theorem ml_wh_inv {σ ρ : Type} [Inhabited ρ] {s : σ → σ ⊕ ρ} {P : ρ → Prop} (hd : P default) (I : ∀ x r, s x = .inr r → P r) (x : σ) : P (ml_wh s x) := by
  by_cases h : ∃ r, ∃ n, ml_itr s n x = some r
  · have e : ml_wh s x = Classical.choose h := dif_pos h
    rw [e]
    obtain ⟨n, hn⟩ := Classical.choose_spec h
    exact ml_itr_inv I n x _ hn
  · have e : ml_wh s x = default := dif_neg h
    rw [e]
    exact hd
theorem R261 {a2 a3 a4 : Int32} : (g261_41 a2 a3 a4 h).2.2.1 (.inl 105) 79 = 0 := by
  unfold g261_41
  refine ml_wh_inv (P := fun r : Int32 × mx_H => r.2.2.1 (.inl 105) 79 = 0) rfl (fun x r e => ?_) _
  rcases x with ⟨b2, b3, b4, g⟩ | ⟨b2, b3, b4, b5, g⟩
  · simp only [b261] at e
    split at e
    · cases e
      exact rI_s
    · cases e
  · simp only [b261, x_let] at e
    split at e
    · cases e
    · split at e
      · cases e
      · split at e
        · cases e
        · split at e
          · cases e
          · cases e
theorem st_rolled (A : rs_A hc hr S N) (B : rt_b hc hr) : rt_b (f133 a1 a2 hc).2 (f261 a1 a2 hr).2 := by
  have B' : hc.2.1 (.inl 71) 7 = hr.2.1 (.inl 105) 79 := B
  rw [f133_eq, f261_eq, ← w_ws]
  rcases C166 (a := a1) A with ⟨s, lt, h1, e1, e1'⟩ | ⟨e1, e1'⟩
  · rw [e1, e1', if_neg n10]
    show rt_b (if f157 a2 1 200 ≠ 0 then _ else _ : Int32 × mx_H).2 _
    by_cases c : f157 a2 1 200 ≠ 0
    · rw [if_pos c, if_pos c]
      by_cases c2 : hr.2.1 (.inl 105) 79 ≠ 0
      · rw [B', if_pos c2, if_pos c2]
        refine Eq.trans ?_ R261.symm
        exact rI_s
      · rw [B', if_neg c2, if_neg c2]
        exact B
    · rw [if_neg c, if_neg c]
      exact B
  · rw [e1, e1', if_pos rfl]
    exact B
/-- keep answers alike -/
theorem aw_keep (A : rs_A hc hr S N) : (f150 a1 a2 hc).1 = (f301 a1 a2 hr).1 := by
  have e : hc.2.1 (.inl 90) 0 = hr.2.1 (.inl 105) 12 := i_eq A.2.2.2.2.1 A.2.2.2.2.2.1 rfl
  rw [f150_eq, f301_eq, f161_eq, f300_eq, f163_eq, f283_eq, e, w_ws, w_ws]
  by_cases c1 : f173 a1 0 5 = 0
  · rw [if_pos c1, if_pos c1]
  · rw [if_neg c1, if_neg c1]
    by_cases c2 : a2 = -1
    · rw [if_pos c2, if_pos c2]
      rfl
    · rw [if_neg c2, if_neg c2]
      by_cases c3 : f173 a2 0 (hr.2.1 (.inl 105) 12 - 1) ≠ 0
      · rw [if_pos c3, if_pos c3]
        rfl
      · rw [if_neg c3, if_neg c3]
end RTC
/-! ===== what the law carries; exact answers beside what is safe ===== -/
def rt_Q (h : mx_H) : Prop := rt_R h ∧ rt_B h
set_option maxRecDepth 1000000 in
theorem rt_Q00 : sp_hN.2.1 (.inl 71) 7 = sp_hN.2.1 (.inl 105) 79 := by decide +kernel
theorem rt_Q0 : rt_Q sp_hN := ⟨rt_0, rt_Q00⟩
section RTD
variable {E : mx_Ev} {d n : Nat} {av : List mx_V} {h h2 : mx_H} {Q : Option mx_V → mx_H → Prop} {M : mx_H → Prop} {m : Nat}
theorem rt_Ci {r : Int32 × mx_H} (T : mx_C E (mx_fn true) d n av h (fun v h' => ∃ x, v = some (.inl (.int x)) ∧ sf_I h' ∧ M h')) (X : ∀ k, mx_M E k n av h (fun v h' => v = some (.inl (.int r.1)) ∧ h' = r.2)) (K : sf_I r.2 → M r.2 → Q (some (.inl (.int r.1))) r.2) : mx_C E (mx_fn true) d n av h Q :=
  (T.and X).mono (fun v h' q => by
    obtain ⟨⟨x, -, I, e⟩, e1, e2⟩ := q
    subst e2
    rw [e1]
    exact K I e)
theorem rt_Cl {r : Int64 × mx_H} (T : mx_C E (mx_fn true) d n av h (fun v h' => ∃ x, v = some (.inl (.long x)) ∧ sf_I h' ∧ M h')) (X : ∀ k, mx_M E k n av h (fun v h' => v = some (.inl (.long r.1)) ∧ h' = r.2)) (K : sf_I r.2 → M r.2 → Q (some (.inl (.long r.1))) r.2) : mx_C E (mx_fn true) d n av h Q :=
  (T.and X).mono (fun v h' q => by
    obtain ⟨⟨x, -, I, e⟩, e1, e2⟩ := q
    subst e2
    rw [e1]
    exact K I e)
theorem xk_i {r q : Int32 × mx_H} (e : q = r) : xK_i (fun v h' => v = some (.inl (.int r.1)) ∧ h' = r.2) q := by
  subst e
  exact And.intro rfl rfl
theorem xk_l {r q : Int64 × mx_H} (e : q = r) : xK_l (fun v h' => v = some (.inl (.long r.1)) ∧ h' = r.2) q := by
  subst e
  exact And.intro rfl rfl
theorem xk_ip {r q : Int32} (e : q = r) : xK_ip (fun v h' => v = some (.inl (.int r)) ∧ h' = h) h q := by
  subst e
  exact And.intro rfl rfl
theorem xk_lp {r q : Int64} (e : q = r) : xK_lp (fun v h' => v = some (.inl (.long r)) ∧ h' = h) h q := by
  subst e
  exact And.intro rfl rfl
/-- what both shelves hold, asked -/
theorem rt_eqS {X : Prop} (R : rt_R h) (b : m &&& rt_Mr = 0) (c1 : m &&& (2 ^ 375 + 2 ^ 376) = 0) (e : sf_El m h h2) (k : ∀ S N, rt_P h h2 S N → rt_S h h2 N → X) : X := by
  obtain ⟨S, N, P, K, -⟩ := R
  refine k S N (P.r b e) (fun s hs => ?_)
  unfold rD
  rw [e 163 s (rt_bit (r := 375) c1 (by decide)), e 164 s (rt_bit (r := 376) c1 (by decide))]
  exact K s hs
/-- what the lists hold, asked -/
theorem rt_eqL {X : Prop} (R : rt_R h) (b : m &&& rt_Mr = 0) (d1 : m &&& (2 ^ 275 + 2 ^ 276 + 2 ^ 280 + 2 ^ 352 + 2 ^ 353 + 2 ^ 354 + 2 ^ 355 + 2 ^ 356 + 2 ^ 357) = 0) (e : sf_El m h h2) (k : ∀ S N, rt_P h h2 S N → rt_L h h2 S → X) : X := by
  obtain ⟨S, N, P, -, L⟩ := R
  exact k S N (P.r b e) (rt_Lr d1 e L)
theorem rt_eq {X : Prop} (R : rt_R h) (b : m &&& rt_Mr = 0) (e : sf_El m h h2) (k : ∀ S N, rt_P h h2 S N → X) : X := by
  obtain ⟨S, N, P, -, -⟩ := R
  exact k S N (P.r b e)
theorem rt_Qf {h' : mx_H} (b1 : m &&& rt_Mc = 0) (b2 : m &&& rt_Mr = 0) (b5 : m &&& rt_Ms = 0) (b6 : m &&& rt_Ml = 0) (b3 : m.testBit 171 = false) (b4 : m.testBit 303 = false) (e : sf_E m h h') (R : rt_Q h) : rt_Q h' := ⟨rt_f b1 b2 b5 b6 e R.1, rt_Bf b3 b4 e.l R.2⟩
end RTD
