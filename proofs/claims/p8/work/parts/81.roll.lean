/-! ===== further blows told: how many, on both sides ===== -/
def rt_b (hc hr : mx_H) : Prop := hc.2.1 (.inl 71) 7 = hr.2.1 (.inl 105) 79
def rt_B (h : mx_H) : Prop := rt_b h h
section RTC
variable {h h' hc hr h2 h4 : mx_H} {S N m m1 m2 : Nat} {a1 a2 a3 a4 : Int32}
theorem rt_Bf (b1 : m.testBit 171 = false) (b2 : m.testBit 303 = false) (e : sf_El m h h') (B : rt_B h) : rt_B h' := by
  show h'.2.1 (.inl 71) 7 = h'.2.1 (.inl 105) 79
  rw [e 71 7 b1, e 105 79 b2]
  exact B
theorem rt_Br (b2 : m.testBit 303 = false) (e : sf_El m h h') (B : rt_b hc h) : rt_b hc h' := by
  show hc.2.1 (.inl 71) 7 = h'.2.1 (.inl 105) 79
  rw [e 105 79 b2]
  exact B
theorem rt_Bc (b1 : m.testBit 171 = false) (e : sf_El m h h') (B : rt_b h hr) : rt_b h' hr := by
  show h'.2.1 (.inl 71) 7 = hr.2.1 (.inl 105) 79
  rw [e 71 7 b1]
  exact B
theorem st_roll (I : sf_I hc) (B : rt_b hc hr) : (f132 a1 a2 a3 hc).1 = (f260 a1 a2 a3 hr).1 ∧ rt_b (f132 a1 a2 a3 hc).2 (f260 a1 a2 a3 hr).2 := by
  obtain ⟨b1, b2⟩ := sf_rd (lo := 0) (hi := 6) (r := 171) I (.inl 71) 7 rfl (by decide)
  have B' : hc.2.1 (.inl 71) 7 = hr.2.1 (.inl 105) 79 := B
  rw [f132_eq, f260_eq, f159_eq, w_ws, w_ws, w_ws]
  by_cases c1 : f173 a1 0 5 = 0
  · rw [if_pos c1, if_pos c1]
    exact ⟨rfl, B⟩
  · rw [if_neg c1, if_neg c1]
    by_cases c2 : f173 a2 (-99) 99 = 0
    · rw [if_pos c2, if_pos c2]
      exact ⟨rfl, B⟩
    · rw [if_neg c2, if_neg c2]
      by_cases c3 : f173 a3 0 99 ≠ 0
      · rw [if_pos c3, if_pos c3]
        by_cases c4 : (hc.2.1 (.inl 71) 7).toInt < 6
        · have l6 : hc.2.1 (.inl 71) 7 < 6 := i_lt rfl k_6 c4
          have e : (f2 a1 a2 a3 hc).2.1 (.inl 71) 7 = hr.2.1 (.inl 105) 79 + 1 := by
            rw [f2_eq, if_pos l6, ← B']
            rfl
          rw [if_pos l6, if_pos (show hr.2.1 (.inl 105) 79 ≠ 6 from fun z => by
            rw [B', z] at c4
            exact absurd c4 (by decide))]
          exact ⟨e, e⟩
        · rw [if_neg (i_nlt rfl k_6 (by omega)), if_neg (show ¬ hr.2.1 (.inl 105) 79 ≠ 6 from fun z => z (B' ▸ i_eq rfl k_6 (by omega)))]
          exact ⟨rfl, B⟩
      · rw [if_neg c3, if_neg c3]
        exact ⟨rfl, B⟩
theorem ml_itr_inv {σ ρ : Type} {s : σ → σ ⊕ ρ} {P : ρ → Prop} (I : ∀ x r, s x = .inr r → P r) : ∀ (n : Nat) (x : σ) (r : ρ), ml_itr s n x = some r → P r
  | 0, _, _, e => by cases e
  | n + 1, x, r, e => by
    cases es : s x with
    | inl y =>
      rw [ml_itr_i es] at e
      exact ml_itr_inv I n y r e
    | inr q =>
      rw [ml_itr_r es] at e
      cases e
      exact I x r es
theorem ml_wh_inv {σ ρ : Type} [Inhabited ρ] {s : σ → σ ⊕ ρ} {P : ρ → Prop} (hd : P default) (I : ∀ x r, s x = .inr r → P r) (x : σ) : P (ml_wh s x) := by
  by_cases h : ∃ r, ∃ n, ml_itr s n x = some r
  · have e : ml_wh s x = Classical.choose h := dif_pos h
    rw [e]
    obtain ⟨n, hn⟩ := Classical.choose_spec h
    exact ml_itr_inv I n x _ hn
  · have e : ml_wh s x = default := dif_neg h
    rw [e]
    exact hd
theorem R261 {a2 a3 a4 : Int32} : (g261_41 a2 a3 a4 h).2.2.1 (.inl 105) 79 = 0 := by
  unfold g261_41
  refine ml_wh_inv (P := fun r : Int32 × mx_H => r.2.2.1 (.inl 105) 79 = 0) rfl (fun x r e => ?_) _
  rcases x with ⟨b2, b3, b4, g⟩ | ⟨b2, b3, b4, b5, g⟩
  · simp only [b261] at e
    split at e
    · cases e
      exact rI_s
    · cases e
  · simp only [b261, x_let] at e
    split at e
    · cases e
    · split at e
      · cases e
      · split at e
        · cases e
        · split at e
          · cases e
          · cases e
theorem st_rolled (A : rs_A hc hr S N) (B : rt_b hc hr) : rt_b (f133 a1 a2 hc).2 (f261 a1 a2 hr).2 := by
  have B' : hc.2.1 (.inl 71) 7 = hr.2.1 (.inl 105) 79 := B
  rw [f133_eq, f261_eq, ← w_ws]
  rcases C166 (a := a1) A with ⟨s, lt, h1, e1, e1'⟩ | ⟨e1, e1'⟩
  · rw [e1, e1', if_neg n10]
    show rt_b (if f157 a2 1 200 ≠ 0 then _ else _ : Int32 × mx_H).2 _
    by_cases c : f157 a2 1 200 ≠ 0
    · rw [if_pos c, if_pos c]
      by_cases c2 : hr.2.1 (.inl 105) 79 ≠ 0
      · rw [B', if_pos c2, if_pos c2]
        refine Eq.trans ?_ R261.symm
        exact rI_s
      · rw [B', if_neg c2, if_neg c2]
        exact B
    · rw [if_neg c, if_neg c]
      exact B
  · rw [e1, e1', if_pos rfl]
    exact B
/-- keep answers alike -/
theorem aw_keep (A : rs_A hc hr S N) : (f150 a1 a2 hc).1 = (f301 a1 a2 hr).1 := by
  have e : hc.2.1 (.inl 90) 0 = hr.2.1 (.inl 105) 12 := i_eq A.2.2.2.2.1 A.2.2.2.2.2.1 rfl
  rw [f150_eq, f301_eq, f161_eq, f300_eq, f163_eq, f283_eq, e, w_ws, w_ws]
  by_cases c1 : f173 a1 0 5 = 0
  · rw [if_pos c1, if_pos c1]
  · rw [if_neg c1, if_neg c1]
    by_cases c2 : a2 = -1
    · rw [if_pos c2, if_pos c2]
      rfl
    · rw [if_neg c2, if_neg c2]
      by_cases c3 : f173 a2 0 (hr.2.1 (.inl 105) 12 - 1) ≠ 0
      · rw [if_pos c3, if_pos c3]
        rfl
      · rw [if_neg c3, if_neg c3]
end RTC
/-! ===== what the law carries; exact answers beside what is safe ===== -/
def rt_Q (h : mx_H) : Prop := rt_R h ∧ rt_B h
set_option maxRecDepth 1000000 in
theorem rt_Q00 : sp_hN.2.1 (.inl 71) 7 = sp_hN.2.1 (.inl 105) 79 := by decide +kernel
theorem rt_Q0 : rt_Q sp_hN := ⟨rt_0, rt_Q00⟩
section RTD
variable {E : mx_Ev} {d n : Nat} {av : List mx_V} {h h2 : mx_H} {Q : Option mx_V → mx_H → Prop} {M : mx_H → Prop} {m : Nat}
theorem rt_Ci {r : Int32 × mx_H} (T : mx_C E (mx_fn true) d n av h (fun v h' => ∃ x, v = some (.inl (.int x)) ∧ sf_I h' ∧ M h')) (X : ∀ k, mx_M E k n av h (fun v h' => v = some (.inl (.int r.1)) ∧ h' = r.2)) (K : sf_I r.2 → M r.2 → Q (some (.inl (.int r.1))) r.2) : mx_C E (mx_fn true) d n av h Q :=
  (T.and X).mono (fun v h' q => by
    obtain ⟨⟨x, -, I, e⟩, e1, e2⟩ := q
    subst e2
    rw [e1]
    exact K I e)
theorem rt_Cl {r : Int64 × mx_H} (T : mx_C E (mx_fn true) d n av h (fun v h' => ∃ x, v = some (.inl (.long x)) ∧ sf_I h' ∧ M h')) (X : ∀ k, mx_M E k n av h (fun v h' => v = some (.inl (.long r.1)) ∧ h' = r.2)) (K : sf_I r.2 → M r.2 → Q (some (.inl (.long r.1))) r.2) : mx_C E (mx_fn true) d n av h Q :=
  (T.and X).mono (fun v h' q => by
    obtain ⟨⟨x, -, I, e⟩, e1, e2⟩ := q
    subst e2
    rw [e1]
    exact K I e)
theorem xk_i {r q : Int32 × mx_H} (e : q = r) : xK_i (fun v h' => v = some (.inl (.int r.1)) ∧ h' = r.2) q := by
  subst e
  exact And.intro rfl rfl
theorem xk_l {r q : Int64 × mx_H} (e : q = r) : xK_l (fun v h' => v = some (.inl (.long r.1)) ∧ h' = r.2) q := by
  subst e
  exact And.intro rfl rfl
theorem xk_ip {r q : Int32} (e : q = r) : xK_ip (fun v h' => v = some (.inl (.int r)) ∧ h' = h) h q := by
  subst e
  exact And.intro rfl rfl
theorem xk_lp {r q : Int64} (e : q = r) : xK_lp (fun v h' => v = some (.inl (.long r)) ∧ h' = h) h q := by
  subst e
  exact And.intro rfl rfl
/-- what both shelves hold, asked -/
theorem rt_eqS {X : Prop} (R : rt_R h) (b : m &&& rt_Mr = 0) (c1 : m &&& (2 ^ 375 + 2 ^ 376) = 0) (e : sf_El m h h2) (k : ∀ S N, rt_P h h2 S N → rt_S h h2 N → X) : X := by
  obtain ⟨S, N, P, K, -⟩ := R
  refine k S N (P.r b e) (fun s hs => ?_)
  unfold rD
  rw [e 163 s (rt_bit (r := 375) c1 (by decide)), e 164 s (rt_bit (r := 376) c1 (by decide))]
  exact K s hs
/-- what the lists hold, asked -/
theorem rt_eqL {X : Prop} (R : rt_R h) (b : m &&& rt_Mr = 0) (d1 : m &&& (2 ^ 275 + 2 ^ 276 + 2 ^ 280 + 2 ^ 352 + 2 ^ 353 + 2 ^ 354 + 2 ^ 355 + 2 ^ 356 + 2 ^ 357) = 0) (e : sf_El m h h2) (k : ∀ S N, rt_P h h2 S N → rt_L h h2 S → X) : X := by
  obtain ⟨S, N, P, -, L⟩ := R
  exact k S N (P.r b e) (rt_Lr d1 e L)
theorem rt_eq {X : Prop} (R : rt_R h) (b : m &&& rt_Mr = 0) (e : sf_El m h h2) (k : ∀ S N, rt_P h h2 S N → X) : X := by
  obtain ⟨S, N, P, -, -⟩ := R
  exact k S N (P.r b e)
theorem rt_Qf {h' : mx_H} (b1 : m &&& rt_Mc = 0) (b2 : m &&& rt_Mr = 0) (b5 : m &&& rt_Ms = 0) (b6 : m &&& rt_Ml = 0) (b3 : m.testBit 171 = false) (b4 : m.testBit 303 = false) (e : sf_E m h h') (R : rt_Q h) : rt_Q h' := ⟨rt_f b1 b2 b5 b6 e R.1, rt_Bf b3 b4 e.l R.2⟩
end RTD
/-! ===== what is asked of shapes: of, piece ===== -/
section RTE
variable {h hc hr : mx_H} {S N s n C F u v c k : Nat} {a a1 a2 a3 a4 x y : Int32}
/-- a number's tens and ones -/
theorem i_ten {q : Nat} (hx : x.toInt = (q : Int)) : (x / 10).toInt = ((q / 10 : Nat) : Int) ∧ (x - x / 10 * 10).toInt = ((q % 10 : Nat) : Int) := by
  have b := i_b x
  have e := i_div (y := 10) (q := 10) hx rfl
  refine ⟨e, ?_⟩
  rw [i_sub hx (i_mul e k_10 (by omega) (by omega)) (by omega) (by omega)]
  omega
theorem k_20' : (20 : Int32).toInt = 20 := rfl
theorem k_30' : (30 : Int32).toInt = 30 := rfl
theorem k_40' : (40 : Int32).toInt = 40 := rfl
theorem k_50' : (50 : Int32).toInt = 50 := rfl
theorem aw_of (I : sf_I hr) (A : rs_A hc hr S N) : f104 a1 a2 hc = f196 a1 a2 hr := by
  obtain ⟨A1, A2, A3, A4, A5, A6, A7, A8, A9, A10⟩ := id A
  have K := f104_eq a1 a2 hc
  have T := f196_eq a1 a2 hr
  rcases C166 (a := a1) A with ⟨s, lt, h1, e1, e1'⟩ | ⟨e1, e1'⟩
  · obtain ⟨C, n, F, Ds⟩ := (A9 s lt).2
    have C6 := Ds.2.1
    have kc := Ds.2.2.2.1
    have kr := Ds.2.2.2.2.1
    have k6 := Ds.2.2.2.2.2.1
    rw [if_neg (by rw [e1']; exact n10)] at T
    have K' : f104 a1 a2 hc = if a2 ≠ 0 then (if a2 ≠ 1 then (if a2 ≠ 2 then (if a2 < 10 then (-2000000000 : Int32) else (if a2 - a2 / 10 * 10 < hc.2.1 (.inr (s, 0)) 0 then (if a2 / 10 = 1 then g104_96 a2 s hc else (if a2 / 10 = 2 then g104_106 a2 s hc else (if a2 / 10 = 3 then g104_116 a2 s hc else (if a2 / 10 = 4 then g104_126 a2 s hc else g104_136 hc)))) else -2000000000)) else f60 s hc) else hc.2.1 (.inr (s, 0)) 6) else hc.2.1 (.inr (s, 0)) 0 := by
      rw [K, e1]
      rfl
    clear K
    by_cases p : 0 ≤ a2.toInt
    · have hq : a2.toInt = ((a2.toInt.toNat : Nat) : Int) := by omega
      generalize a2.toInt.toNat = q at hq
      rw [if_pos (i_le k_0 hq (by omega))] at T
      by_cases t : 10 ≤ q
      · rw [if_pos (i_ne hq k_0 (by omega)), if_pos (i_ne hq k_1 (by omega)), if_pos (i_ne hq k_2 (by omega)), if_neg (i_nlt hq k_10 (by omega))] at K'
        rw [if_pos (i_le k_10 hq (by omega))] at T
        obtain ⟨d1, d2⟩ := i_ten hq
        rcases C164 (x := a2 - a2 / 10 * 10) h1 kc kr C6 with ⟨c, hc1, hx, g1, g1'⟩ | ⟨g1, g1'⟩
        · have hp := w6 h1 hx (show s ≤ 12 by omega) (show c < 6 by omega)
          obtain ⟨b1, b2, b3, b4⟩ := Ds.2.2.2.2.2.2.2.1 c hc1
          rw [if_pos (i_lt hx kc (by omega))] at K'
          rw [if_pos (by rw [g1']; exact n10), i_cl hp] at T
          by_cases q2 : q < 20
          · rw [if_pos (i_eq d1 k_1 (by omega)), g104_96_eq, i_cl hx, b1] at K'
            rw [if_neg (i_nle k_20' hq (by omega))] at T
            rw [K', T]
          · rw [if_neg (i_ne d1 k_1 (by omega))] at K'
            rw [if_pos (i_le k_20' hq (by omega))] at T
            by_cases q3 : q < 30
            · rw [if_pos (i_eq d1 k_2 (by omega)), g104_106_eq, i_cl hx, b2] at K'
              rw [if_neg (i_nle k_30' hq (by omega))] at T
              rw [K', T]
            · rw [if_neg (i_ne d1 k_2 (by omega))] at K'
              rw [if_pos (i_le k_30' hq (by omega))] at T
              by_cases q4 : q < 40
              · rw [if_pos (i_eq d1 k_3 (by omega)), g104_116_eq, i_cl hx, b3] at K'
                rw [if_neg (i_nle k_40' hq (by omega))] at T
                rw [K', T]
              · rw [if_neg (i_ne d1 k_3 (by omega))] at K'
                rw [if_pos (i_le k_40' hq (by omega))] at T
                by_cases q5 : q < 50
                · rw [if_pos (i_eq d1 k_4 (by omega)), g104_126_eq, i_cl hx, b4] at K'
                  rw [if_neg (i_nle k_50' hq (by omega))] at T
                  rw [K', T]
                  rcases sf_110 I (6 * s + c) with z | z
                  · rw [if_pos z, z]
                  · rw [if_neg (by rw [z]; exact n10), z]
                · rw [if_neg (i_ne d1 k_4 (by omega)), g104_136_eq] at K'
                  rw [if_pos (i_le k_50' hq (by omega))] at T
                  rw [K', T]
        · have nc : ¬ q % 10 < C := fun z => by
            rw [f164_eq, w157_1 d2 k_0 (i_sub kc k_1 (by omega) (by omega)) (by omega), if_neg n10] at g1
            exact n10 g1
          rw [if_neg (i_nlt d2 kc (by omega))] at K'
          rw [if_neg (by rw [g1']; exact fun z => z rfl)] at T
          rw [K', T]
      · rw [if_neg (i_nle k_10 hq (by omega))] at T
        by_cases z0 : q = 0
        · rw [if_neg (fun z => z (i_eq hq k_0 (by omega)))] at K' T
          rw [i_cl h1] at T
          rw [K', T]
          exact i_eq kc kr rfl
        · rw [if_pos (i_ne hq k_0 (by omega))] at K' T
          by_cases z1 : q = 1
          · rw [if_neg (fun z => z (i_eq hq k_1 (by omega)))] at K' T
            rw [K', T]
            exact i_eq k6 (R183 h1 (by omega) (sf_113 I)) (by rw [← Ds.2.2.2.2.2.2.2.2.2.2.2.1])
          · rw [if_pos (i_ne hq k_1 (by omega))] at K' T
            by_cases z2 : q = 2
            · rw [if_neg (fun z => z (i_eq hq k_2 (by omega)))] at K' T
              rw [K', T]
              exact aw_tones Ds (by omega) h1
            · rw [if_pos (i_ne hq k_2 (by omega))] at K' T
              rw [if_pos (i_lt hq k_10 (by omega))] at K'
              rw [K', T]
    · have hq : a2.toInt = a2.toInt := rfl
      rw [if_neg (i_nle k_0 hq (by omega))] at T
      rw [if_pos (i_ne hq k_0 (by omega)), if_pos (i_ne hq k_1 (by omega)), if_pos (i_ne hq k_2 (by omega)), if_pos (i_lt hq k_10 (by omega))] at K'
      rw [K', T]
  · rw [if_pos e1'] at T
    rw [K, e1, T]
    rfl
theorem aw_piece (I : sf_I hr) (A : rs_A hc hr S N) : f105 a1 a2 a3 a4 hc = f197 a1 a2 a3 a4 hr := by
  obtain ⟨A1, A2, A3, A4, A5, A6, A7, A8, A9, A10⟩ := id A
  have K := f105_eq a1 a2 a3 a4 hc
  have T := f197_eq a1 a2 a3 a4 hr
  rcases C166 (a := a1) A with ⟨s, lt, h1, e1, e1'⟩ | ⟨e1, e1'⟩
  · obtain ⟨C, n, F, Ds⟩ := (A9 s lt).2
    have C6 := Ds.2.1
    have n15 : n ≤ 15 := by
      rw [Ds.2.2.2.2.2.2.2.2.2.2.2.1]
      exact sd_C_15 _
    have K' : f105 a1 a2 a3 a4 hc = if f164 s a2 hc = 0 then (-1 : Int32) else (if f164 s a3 hc = 0 then -1 else (if f157 a4 0 2 ≠ 0 then (if 0 ≤ f61 s a2 a3 hc then (if a4 ≠ 0 then (if a4 ≠ 1 then hc.2.1 (.inr (s, 8)) (Int32.toNatClampNeg (f61 s a2 a3 hc)) else hc.2.1 (.inr (s, 7)) (Int32.toNatClampNeg (f61 s a2 a3 hc))) else hc.2.1 (.inr (s, 0)) 5 + f61 s a2 a3 hc) else -2) else -1)) := by
      rw [K, e1]
      rfl
    clear K
    rw [if_neg (by rw [e1']; exact n10)] at T
    rcases C164 (x := a2) h1 Ds.2.2.2.1 Ds.2.2.2.2.1 Ds.2.1 with ⟨u, hu, hx, g1, g1'⟩ | ⟨g1, g1'⟩
    · rw [if_neg (by rw [g1]; exact n10)] at K'
      rw [if_neg (by rw [g1']; exact n10)] at T
      rcases C164 (x := a3) h1 Ds.2.2.2.1 Ds.2.2.2.2.1 Ds.2.1 with ⟨v, hv, hy, g2, g2'⟩ | ⟨g2, g2'⟩
      · rw [if_neg (by rw [g2]; exact n10), w_ws] at K'
        rw [if_neg (by rw [g2']; exact n10)] at T
        by_cases c : f173 a4 0 2 ≠ 0
        · rw [if_pos c] at K' T
          rcases rs_pb (a := a1) Ds n15 A2 (by omega) h1 hx hy hu hv with ⟨k, hk, ne, ek, Q, f1, W⟩ | ⟨ek, un⟩
          · obtain ⟨q1, q2, q3, q4, q5, q6, q7, q8, q9⟩ := rs_k.b Q
            have f5 := Ds.2.2.2.2.2.2.1
            have fn := Ds.2.2.1
            rw [if_pos (show 0 ≤ f61 s a2 a3 hc from i_le k_0 ek (by omega)), i_cl ek] at K'
            rw [if_neg (i_ne hx hy (by omega)), if_pos (by rw [f1]; exact n10)] at T
            have T' : f197 a1 a2 a3 a4 hr = if a4 ≠ 0 then (if a4 ≠ 1 then hr.2.1 (.inl 112) (36 * s + 6 * u + v) else hr.2.1 (.inl 111) (36 * s + 6 * u + v)) else hr.2.1 (.inl 113) (36 * s + 6 * u + v) - 1 := by
              rw [T]
              show (if a4 ≠ 0 then (if a4 ≠ 1 then hr.2.1 (.inl 112) (Int32.toNatClampNeg (f179 a1 a2 a3)) else hr.2.1 (.inl 111) (Int32.toNatClampNeg (f179 a1 a2 a3))) else hr.2.1 (.inl 113) (Int32.toNatClampNeg (f179 a1 a2 a3)) - 1) = _
              rw [i_cl W]
            rw [K', T', q8, q9]
            have z : hc.2.1 (.inr (s, 0)) 5 + f61 s a2 a3 hc = hr.2.1 (.inl 113) (36 * s + 6 * u + v) - 1 := i_eq (i_add f5 ek (by omega) (by omega)) (i_sub q6 k_1 (by omega) (by omega)) (by omega)
            rw [z]
          · rw [ek, if_neg (show ¬ (0 : Int32) ≤ -1 by decide)] at K'
            rcases un with un | ⟨un, z⟩
            · rw [if_pos (i_eq hx hy (by omega))] at T
              rw [K', T]
            · rw [if_neg (i_ne hx hy (by omega)), if_neg (by rw [z]; exact fun t => t rfl)] at T
              rw [K', T]
        · rw [if_neg c] at K' T
          rw [K', T]
      · rw [if_pos g2] at K'
        rw [if_pos g2'] at T
        rw [K', T]
    · rw [if_pos g1] at K'
      rw [if_pos g1'] at T
      rw [K', T]
  · rw [if_pos e1'] at T
    rw [K, e1, T]
    rfl
end RTE
/-! ===== digest: alike ===== -/
section RTF
variable {h hc hr : mx_H} {S N s n C F u v c k : Nat} {a a1 a2 a3 a4 x y : Int32}
theorem dg_c (h1 : a2.toInt = (s : Int)) (s12 : s ≤ 12) (Ds : rs_D hc hr N s C n F) (hb : ∀ i, hr.2.1 (.inl 110) i = 0 ∨ hr.2.1 (.inl 110) i = 1) : ∀ (j c : Nat) (x a3 y : Int32), c + j = C → a3.toInt = (c : Int) → y.toInt = ((6 * s + c : Nat) : Int) → ∃ x', g68_4 s x a3 hc = g68_62 s x' 0 hc ∧ g206_18 x a2 y hr = g206_97 x' a2 0 hr
  | 0, c, x, a3, y, e, ha, hy => by
    have kc := Ds.2.2.2.1
    have kr := Ds.2.2.2.2.1
    have C6 := Ds.2.1
    refine ⟨x, ?_, ?_⟩
    · rw [g68_4_eq, if_pos (i_le kc ha (by omega))]
    · rw [g206_18_eq, i_cl h1, if_pos (i_le (i_add (i_mul k_6 h1 (by omega) (by omega)) kr (by omega) (by omega)) hy (by omega))]
  | j + 1, c, x, a3, y, e, ha, hy => by
    have kc := Ds.2.2.2.1
    have kr := Ds.2.2.2.2.1
    have C6 := Ds.2.1
    obtain ⟨b1, b2, b3, b4⟩ := Ds.2.2.2.2.2.2.2.1 c (by omega)
    have ha1 : (a3 + 1).toInt = ((c + 1 : Nat) : Int) := (i_add ha k_1 (by omega) (by omega)).trans (by omega)
    have hy1 : (y + 1).toInt = ((6 * s + (c + 1) : Nat) : Int) := (i_add hy k_1 (by omega) (by omega)).trans (by omega)
    have E1 : g68_4 s x a3 hc = g68_4 s ((((x * 31 + hr.2.1 (.inl 107) (6 * s + c)) * 31 + hr.2.1 (.inl 108) (6 * s + c)) * 31 + hr.2.1 (.inl 109) (6 * s + c)) * 31 + hr.2.1 (.inl 110) (6 * s + c)) (a3 + 1) hc := by
      rw [g68_4_eq, if_neg (i_nle kc ha (by omega)), i_cl ha, b1, b2, b3, b4]
    have E2 : g206_18 x a2 y hr = g206_18 ((((x * 31 + hr.2.1 (.inl 107) (6 * s + c)) * 31 + hr.2.1 (.inl 108) (6 * s + c)) * 31 + hr.2.1 (.inl 109) (6 * s + c)) * 31 + hr.2.1 (.inl 110) (6 * s + c)) a2 (y + 1) hr := by
      rw [g206_18_eq, i_cl h1, if_neg (i_nle (i_add (i_mul k_6 h1 (by omega) (by omega)) kr (by omega) (by omega)) hy (by omega)), i_cl hy]
      rcases hb (6 * s + c) with z | z
      · rw [if_pos z, z]
      · rw [if_neg (by rw [z]; exact n10), z]
    obtain ⟨x', z1, z2⟩ := dg_c h1 s12 Ds hb j (c + 1) _ (a3 + 1) (y + 1) (by omega) ha1 hy1
    exact ⟨x', E1.trans z1, E2.trans z2⟩
theorem f174_m {u v : Nat} (hx : x.toInt = (u : Int)) (hy : y.toInt = (v : Int)) : (f174 x y).toInt = ((min u v : Nat) : Int) := (f174_v hx hy).trans (by omega)
theorem f175_m {u v : Nat} (hx : x.toInt = (u : Int)) (hy : y.toInt = (v : Int)) : (f175 x y).toInt = ((max u v : Nat) : Int) := by
  rw [f175_eq]
  by_cases t : x ≤ y
  · have t' := Int32.le_iff_toInt_le.mp t
    rw [if_pos t]
    omega
  · have t' : y.toInt < x.toInt := Int.not_le.mp (fun q => t (Int32.le_iff_toInt_le.mpr q))
    rw [if_neg t]
    omega
theorem dg_p (h1 : a2.toInt = (s : Int)) (s12 : s ≤ 12) (N2 : N ≤ 200) (hN : rD hr (.inl 105) 12 = N) (Ds : rs_D hc hr N s C n F) (Hm : ∀ b, b < N → ¬ (F ≤ b ∧ b < F + n) → hr.2.1 (.inl 117) b = 0 ∨ ∃ s' u v : Nat, s' ≤ 12 ∧ s' ≠ s ∧ u < 6 ∧ v < 6 ∧ rD hr (.inl 117) b = ((36 * s' + 6 * u + v + 1 : Nat) : Int)) :
    ∀ (j b k : Nat) (x a3 y : Int32), b + j = N → y.toInt = (b : Int) → a3.toInt = (k : Int) → (b ≤ F ∧ k = 0) ∨ (F < b ∧ b ≤ F + n ∧ k = b - F) ∨ (F + n < b ∧ k = n) → g206_97 x a2 y hr = g206_5 (g68_62 s x a3 hc) (a2 + 1) hr
  | 0, b, k, x, a3, y, e, hy, ha, K => by
    have fn := Ds.2.2.1
    have k6 := Ds.2.2.2.2.2.1
    rw [g206_97_eq, if_pos (i_le hN hy (by omega)), g68_62_eq, if_pos (i_le k6 ha (by omega))]
  | j + 1, b, k, x, a3, y, e, hy, ha, K => by
    have fn := Ds.2.2.1
    have k6 := Ds.2.2.2.2.2.1
    have C6 := Ds.2.1
    have hy1 : (y + 1).toInt = ((b + 1 : Nat) : Int) := (i_add hy k_1 (by omega) (by omega)).trans (by omega)
    by_cases c : F ≤ b ∧ b < F + n
    · have kb : k = b - F := by omega
      obtain ⟨u, v, Q⟩ := Ds.2.2.2.2.2.2.2.2.2.1 k (by omega)
      have q12 := Q.2.2.2.2.2.2.2.2.2.2.2.1
      rw [show F + k = b by omega] at q12
      have u1 := Q.1
      have v1 := Q.2.1
      have t := R278t q12 (show u < 6 by omega) (show v < 6 by omega) s12
      obtain ⟨d1, d2, d3⟩ := R_dec t (show u < 6 by omega) (show v < 6 by omega) s12
      have lo : f174 ((hr.2.1 (.inl 117) b - 1) / 6 - (hr.2.1 (.inl 117) b - 1) / 6 / 6 * 6) (hr.2.1 (.inl 117) b - 1 - (hr.2.1 (.inl 117) b - 1) / 6 * 6) = hc.2.1 (.inr (s, 5)) k := i_eq (f174_m d2 d3) Q.2.2.2.1 rfl
      have hi : f175 ((hr.2.1 (.inl 117) b - 1) / 6 - (hr.2.1 (.inl 117) b - 1) / 6 / 6 * 6) (hr.2.1 (.inl 117) b - 1 - (hr.2.1 (.inl 117) b - 1) / 6 * 6) = hc.2.1 (.inr (s, 6)) k := i_eq (f175_m d2 d3) Q.2.2.2.2.1 rfl
      rw [g206_97_eq, if_neg (i_nle hN hy (by omega)), i_cl hy, if_neg (i_nlt t k_0 (by omega)), if_pos (i_eq d1 h1 rfl), lo, hi, i_cl t, Q.2.2.2.2.2.2.2.1, Q.2.2.2.2.2.2.2.2.2.1]
      rw [g68_62_eq, if_neg (i_nle k6 ha (by omega)), i_cl ha]
      exact dg_p h1 s12 N2 hN Ds Hm j (b + 1) (k + 1) _ (a3 + 1) (y + 1) (by omega) hy1 ((i_add ha k_1 (by omega) (by omega)).trans (by omega)) (by omega)
    · have E : g206_97 x a2 y hr = g206_97 x a2 (y + 1) hr := by
        rw [g206_97_eq, if_neg (i_nle hN hy (by omega)), i_cl hy]
        rcases Hm b (by omega) c with z | ⟨s', u, v, w1, w2, w3, w4, w5⟩
        · rw [z, if_pos (by decide)]
        · have t := R278t w5 w3 w4 w1
          obtain ⟨d1, d2, d3⟩ := R_dec t w3 w4 w1
          rw [if_neg (i_nlt t k_0 (by omega)), if_neg (i_ne d1 h1 (by omega))]
      rw [E]
      exact dg_p h1 s12 N2 hN Ds Hm j (b + 1) k x a3 (y + 1) (by omega) hy1 ha (by omega)
theorem dg_s (I : sf_I hr) (A : rs_A hc hr S N) : ∀ (j s : Nat) (x y : Int32), s + j = S → y.toInt = (s : Int) → g146_5 x y hc = g206_5 x y hr
  | 0, s, x, y, e, hy => by
    rw [g146_5_eq, if_pos (i_le A.2.2.1 hy (by omega)), g206_5_eq, if_pos (i_le A.2.2.2.1 hy (by omega))]
  | j + 1, s, x, y, e, hy => by
    obtain ⟨A1, A2, A3, A4, A5, A6, A7, A8, A9, A10⟩ := id A
    rcases C166 (a := y) A with ⟨s', lt, h1, e1, e1'⟩ | ⟨e1, e1'⟩
    · have es : s' = s := by omega
      subst es
      obtain ⟨C, n, F, Ds⟩ := (A9 s' lt).2
      have C6 := Ds.2.1
      have hy6 : (6 * y).toInt = ((6 * s' + 0 : Nat) : Int) := (i_mul k_6 hy (by omega) (by omega)).trans (by omega)
      obtain ⟨x', z1, z2⟩ := dg_c hy (by omega) Ds (sf_110 I) C 0 x 0 (6 * y) (by omega) rfl hy6
      have z3 := dg_p (a2 := y) hy (by omega) A2 A6 Ds (rs_Hm A Ds (fun _ _ => rfl)) N 0 0 x' 0 0 (by omega) rfl rfl (Or.inl ⟨by omega, rfl⟩)
      rw [g146_5_eq, if_neg (i_nle A3 hy (by omega)), e1, g206_5_eq, if_neg (i_nle A4 hy (by omega)), z2, z3]
      show g146_5 (f68 s' x hc) (y + 1) hc = _
      rw [f68_eq, z1]
      exact dg_s I A j (s' + 1) _ (y + 1) (by omega) ((i_add hy k_1 (by omega) (by omega)).trans (by omega))
    · exfalso
      rw [f177_eq, w173_1 hy k_0 (i_sub A4 k_1 (by omega) (by omega)) (by omega)] at e1'
      exact n10 e1'
theorem aw_digest (I : sf_I hr) (A : rs_A hc hr S N) : f146 hc = f206 hr := by
  rw [f146_eq, f206_eq]
  exact dg_s I A S 0 7 0 (by omega) rfl
end RTF
/-! ===== the shelves: what they hold, on both sides ===== -/
section RTG
variable {h hc hr : mx_H} {S N s : Nat} {a1 a2 a3 : Int32} {v : Int64}
theorem sh_in (c : ¬ f173 a1 0 5 = 0) : ∃ s : Nat, s < 6 ∧ a1.toInt = (s : Int) := by
  by_cases q : (0 : Int32).toInt ≤ a1.toInt ∧ a1.toInt ≤ (5 : Int32).toInt
  · rw [k_0, k_5] at q
    exact ⟨a1.toInt.toNat, by omega, by omega⟩
  · exact absurd (by rw [w173, if_neg q]) c
theorem st_keep (A : rs_A hc hr S N) (K : rt_S hc hr N) : rt_S (f150 a1 a2 hc).2 (f301 a1 a2 hr).2 N := by
  have e : hc.2.1 (.inl 90) 0 = hr.2.1 (.inl 105) 12 := i_eq A.2.2.2.2.1 A.2.2.2.2.2.1 rfl
  have N2 := A.2.1
  have hN := A.2.2.2.2.2.1
  rw [f150_eq, f301_eq, f161_eq, f300_eq, f163_eq, f283_eq, e, w_ws, w_ws]
  by_cases c1 : f173 a1 0 5 = 0
  · rw [if_pos c1, if_pos c1]
    exact K
  · obtain ⟨t, t6, ht⟩ := sh_in c1
    rw [if_neg c1, if_neg c1, i_cl ht]
    by_cases c2 : a2 = -1
    · rw [if_pos c2, if_pos c2]
      show rt_S (f70 a1 a2 hc) (mx_uI hr (.inl 163) t a2) N
      rw [f70_eq, i_cl ht, c2, if_neg (by decide)]
      intro s hs
      by_cases es : s = t
      · refine Or.inl ⟨?_, ?_⟩
        · show (mx_uI hc (.inl 95) t (-2)).2.1 (.inl 95) s = -2
          rw [sh_i, if_pos es]
        · rw [sh_i, if_pos es]
      · have r1 : (mx_uI (mx_uI (mx_uI hc (.inl 95) t (-2)) (.inl 97) t (if (-1 : Int32) < 0 then 0 else -1)) (.inl 96) t 0).2.1 (.inl 95) s = hc.2.1 (.inl 95) s := by
          show (mx_uI hc (.inl 95) t (-2)).2.1 (.inl 95) s = _
          rw [sh_i, if_neg es]
        have r2 : (mx_uI (mx_uI (mx_uI hc (.inl 95) t (-2)) (.inl 97) t (if (-1 : Int32) < 0 then 0 else -1)) (.inl 96) t 0).2.1 (.inl 97) s = hc.2.1 (.inl 97) s := by
          show (mx_uI (mx_uI hc (.inl 95) t (-2)) (.inl 97) t (if (-1 : Int32) < 0 then 0 else -1)).2.1 (.inl 97) s = _
          rw [sh_i, if_neg es]
          rfl
        have r3 : (mx_uI (mx_uI (mx_uI hc (.inl 95) t (-2)) (.inl 97) t (if (-1 : Int32) < 0 then 0 else -1)) (.inl 96) t 0).2.1 (.inl 96) s = hc.2.1 (.inl 96) s := by
          rw [sh_i, if_neg es]
          rfl
        have r4 : (mx_uI hr (.inl 163) t (-1)).2.1 (.inl 163) s = hr.2.1 (.inl 163) s := by rw [sh_i, if_neg es]
        unfold rD
        rw [r1, r2, r3, r4]
        exact K s hs
    · rw [if_neg c2, if_neg c2]
      by_cases c3 : f173 a2 0 (hr.2.1 (.inl 105) 12 - 1) ≠ 0
      · rw [if_pos c3, if_pos c3]
        have b : 0 ≤ a2.toInt ∧ a2.toInt ≤ (N : Int) - 1 := Classical.byContradiction fun q => c3 (w173_0 rfl k_0 (i_sub hN k_1 (by omega) (by omega)) q)
        show rt_S (f70 a1 a2 hc) (mx_uI hr (.inl 163) t a2) N
        rw [f70_eq, i_cl ht, if_pos (i_le k_0 rfl b.1), if_neg (i_nlt rfl k_0 b.1)]
        intro s hs
        by_cases es : s = t
        · refine Or.inr (Or.inl ⟨?_, a2.toInt.toNat, by omega, ?_, ?_⟩)
          · show (mx_uI hc (.inl 95) t (-1)).2.1 (.inl 95) s = -1
            rw [sh_i, if_pos es]
          · show ((mx_uI (mx_uI hc (.inl 95) t (-1)) (.inl 97) t a2).2.1 (.inl 97) s).toInt = _
            rw [sh_i, if_pos es]
            omega
          · unfold rD
            rw [sh_i, if_pos es]
            omega
        · have r1 : (mx_uI (mx_uI (mx_uI hc (.inl 95) t (-1)) (.inl 97) t a2) (.inl 96) t 0).2.1 (.inl 95) s = hc.2.1 (.inl 95) s := by
            show (mx_uI hc (.inl 95) t (-1)).2.1 (.inl 95) s = _
            rw [sh_i, if_neg es]
          have r2 : (mx_uI (mx_uI (mx_uI hc (.inl 95) t (-1)) (.inl 97) t a2) (.inl 96) t 0).2.1 (.inl 97) s = hc.2.1 (.inl 97) s := by
            show (mx_uI (mx_uI hc (.inl 95) t (-1)) (.inl 97) t a2).2.1 (.inl 97) s = _
            rw [sh_i, if_neg es]
            rfl
          have r3 : (mx_uI (mx_uI (mx_uI hc (.inl 95) t (-1)) (.inl 97) t a2) (.inl 96) t 0).2.1 (.inl 96) s = hc.2.1 (.inl 96) s := by
            rw [sh_i, if_neg es]
            rfl
          have r4 : (mx_uI hr (.inl 163) t a2).2.1 (.inl 163) s = hr.2.1 (.inl 163) s := by rw [sh_i, if_neg es]
          unfold rD
          rw [r1, r2, r3, r4]
          exact K s hs
      · rw [if_neg c3, if_neg c3]
        exact K
/-- clearing longs leaves the ints -/
theorem C316 {a : mx_A} {w : Int64} {y : Int32} {n : Nat} (hy : y.toInt = (n : Int)) (n60 : n ≤ 1000) : ∀ (j i : Nat) (x : Int32) (h : mx_H), i + j = n → x.toInt = (i : Int) → (g316_6 a w x y h).2.1 = h.2.1
  | 0, i, x, h, e, hx => by rw [g316_6_eq, if_pos (i_le hy hx (by omega))]
  | j + 1, i, x, h, e, hx => by
    rw [g316_6_eq, if_neg (i_nle hy hx (by omega)), C316 hy n60 j (i + 1) (x + 1) _ (by omega) ((i_add hx k_1 (by omega) (by omega)).trans (by omega))]
    rfl
theorem k_60 : (60 : Int32).toInt = 60 := rfl
theorem R302 {t : Nat} (ht : a1.toInt = (t : Int)) (t6 : t < 6) : ∀ (j i : Nat) (x : Int32) (h : mx_H), i + j = 60 → x.toInt = ((60 * t + i : Nat) : Int) → (g302_54 a1 x h).1 = 1 ∧ (g302_54 a1 x h).2.2.1 = h.2.1
  | 0, i, x, h, e, hx => by
    have b := i_add (i_mul k_60 ht (by omega) (by omega)) k_60 (by omega) (by omega)
    rw [g302_54_eq, if_pos (i_le b hx (by omega))]
    exact ⟨rfl, rfl⟩
  | j + 1, i, x, h, e, hx => by
    have b := i_add (i_mul k_60 ht (by omega) (by omega)) k_60 (by omega) (by omega)
    rw [g302_54_eq, if_neg (i_nle b hx (by omega))]
    exact R302 ht t6 j (i + 1) (x + 1) _ (by omega) ((i_add hx k_1 (by omega) (by omega)).trans (by omega))
theorem rt_S.x {hc' hr' : mx_H} (e1 : hc'.2.1 = hc.2.1) (e2 : hr'.2.1 = hr.2.1) (K : rt_S hc hr N) : rt_S hc' hr' N := by
  unfold rt_S rD at K ⊢
  rw [e1, e2]
  exact K
theorem C71 {t : Nat} (ht : a1.toInt = (t : Int)) : (f71 a1 a2 a3 h).2.1 = (mx_uI (mx_uI h (.inl 95) t a2) (.inl 96) t a3).2.1 := by
  rw [f71_eq, i_cl ht]
  generalize mx_uI (mx_uI h (.inl 95) t a2) (.inl 96) t a3 = g
  show (f316 (.inr (t, 20)) 0 g).2.1 = _
  rw [f316_eq]
  have l : (mx_lo (.inr (t, 20))).2 = 60 := rfl
  rw [l]
  exact C316 (n := 60) k_60 (by omega) 60 0 0 g (by omega) rfl
theorem R302r {t : Nat} {g : mx_H} (ht : a1.toInt = (t : Int)) (t6 : t < 6) : (g302_54 a1 (60 * a1) g).2.2.1 = g.2.1 := (R302 ht t6 60 0 (60 * a1) g (by omega) ((i_mul k_60 ht (by omega) (by omega)).trans (by omega))).2
theorem sh_row {t : Nat} (t6 : t < 6) (b : 0 ≤ a2.toInt ∧ a2.toInt ≤ 4) (K : rt_S hc hr N) : rt_S (mx_uI (mx_uI hc (.inl 95) t a2) (.inl 96) t a3) (mx_uI (mx_uI hr (.inl 163) t (-2 - a2)) (.inl 164) t a3) N := fun s hs => by
  have r1 : (mx_uI (mx_uI hc (.inl 95) t a2) (.inl 96) t a3).2.1 (.inl 95) s = if s = t then a2 else hc.2.1 (.inl 95) s := by
    rw [rN (show (95 : Nat) ≠ 96 by decide)]
    exact sh_i
  have r2 : (mx_uI (mx_uI hc (.inl 95) t a2) (.inl 96) t a3).2.1 (.inl 96) s = if s = t then a3 else hc.2.1 (.inl 96) s := by
    rw [sh_i, rN (show (96 : Nat) ≠ 95 by decide)]
  have r3 : (mx_uI (mx_uI hc (.inl 95) t a2) (.inl 96) t a3).2.1 (.inl 97) s = hc.2.1 (.inl 97) s := by
    rw [rN (show (97 : Nat) ≠ 96 by decide), rN (show (97 : Nat) ≠ 95 by decide)]
  have r4 : (mx_uI (mx_uI hr (.inl 163) t (-2 - a2)) (.inl 164) t a3).2.1 (.inl 163) s = if s = t then -2 - a2 else hr.2.1 (.inl 163) s := by
    rw [rN (show (163 : Nat) ≠ 164 by decide)]
    exact sh_i
  have r5 : (mx_uI (mx_uI hr (.inl 163) t (-2 - a2)) (.inl 164) t a3).2.1 (.inl 164) s = if s = t then a3 else hr.2.1 (.inl 164) s := by
    rw [sh_i, rN (show (164 : Nat) ≠ 163 by decide)]
  unfold rD
  rw [r1, r2, r3, r4, r5]
  by_cases es : s = t
  · rw [if_pos es, if_pos es, if_pos es, if_pos es]
    exact Or.inr (Or.inr ⟨a2.toInt.toNat, by omega, by omega, (i_sub k_m2 rfl (by omega) (by omega)).trans (by omega), rfl⟩)
  · rw [if_neg es, if_neg es, if_neg es, if_neg es]
    exact K s hs
theorem st_row (K : rt_S hc hr N) : rt_S (f151 a1 a2 a3 hc).2 (f302 a1 a2 a3 hr).2 N := by
  have L := f151_eq a1 a2 a3 hc
  have T := f302_eq a1 a2 a3 hr
  rw [f161_eq, w_ws, w_ws] at L
  rw [f300_eq] at T
  by_cases c1 : f173 a1 0 5 = 0
  · rw [if_pos c1] at L T
    rw [L, T]
    exact K
  · obtain ⟨t, t6, ht⟩ := sh_in c1
    rw [if_neg c1] at L T
    rw [i_cl ht] at T
    by_cases c2 : f173 a2 0 4 = 0
    · rw [if_pos c2] at L T
      rw [L, T]
      exact K
    · rw [if_neg c2] at L T
      have b : 0 ≤ a2.toInt ∧ a2.toInt ≤ 4 := Classical.byContradiction fun q => c2 (w173_0 rfl k_0 k_4 q)
      by_cases c3 : a3 ≤ 60
      · rw [if_pos c3] at L T
        by_cases c4 : 0 ≤ a3
        · rw [if_pos c4] at L T
          have E1 : (f151 a1 a2 a3 hc).2.2.1 = (mx_uI (mx_uI hc (.inl 95) t a2) (.inl 96) t a3).2.1 := by
            rw [L]
            exact C71 ht
          have E2 : (f302 a1 a2 a3 hr).2.2.1 = (mx_uI (mx_uI hr (.inl 163) t (-2 - a2)) (.inl 164) t a3).2.1 := by
            rw [T]
            exact R302r ht t6
          exact rt_S.x E1 E2 (sh_row t6 b K)
        · rw [if_neg c4] at L T
          rw [L, T]
          exact K
      · rw [if_neg c3] at L T
        rw [L, T]
        exact K
theorem k_m11 : (-11 : Int32).toInt = -11 := rfl
theorem k_m12 : (-12 : Int32).toInt = -12 := rfl
theorem k_m13 : (-13 : Int32).toInt = -13 := rfl
/-- whether there is such a place in a row, asked on both sides -/
theorem aw_pl (I : sf_I hr) (K : rt_S hc hr N) (c1 : ¬ f173 a1 0 5 = 0) : (f72 a1 hc = 0 ∧ (f74 a1 a2 hc = 1 ∧ f303 a1 a2 hr = 0 ∨ f74 a1 a2 hc = 0 ∧ f303 a1 a2 hr = -13)) ∨ (f72 a1 hc = f303 a1 a2 hr ∧ (f72 a1 hc = -11 ∨ f72 a1 hc = -12)) := by
  obtain ⟨s, s6, ht⟩ := sh_in c1
  have T := f303_eq a1 a2 hr
  rw [f300_eq, if_pos c1, i_cl ht] at T
  rw [f72_eq, f74_eq, T, i_cl ht]
  rcases K s s6 with ⟨q1, q2⟩ | ⟨q1, b, q2, q3, q4⟩ | ⟨q, q0, q1, q2, q3⟩
  · rw [q1, q2]
    exact Or.inr ⟨rfl, Or.inl rfl⟩
  · rw [q1, if_pos (by decide), if_neg (by decide), if_pos (show hr.2.1 (.inl 163) s ≠ -1 from i_ne q4 k_m1 (by omega)), if_neg (i_nlt q4 k_0 (by omega))]
    exact Or.inr ⟨rfl, Or.inr rfl⟩
  · rw [if_pos (show hc.2.1 (.inl 95) s ≠ -2 from i_ne q1 k_m2 (by omega)), if_pos (show hc.2.1 (.inl 95) s ≠ -1 from i_ne q1 k_m1 (by omega)), if_pos (show hr.2.1 (.inl 163) s ≠ -1 from i_ne q2 k_m1 (by omega)), if_pos (i_lt q2 k_0 (by omega)), q3]
    refine Or.inl ⟨rfl, ?_⟩
    obtain ⟨bb1, bb2⟩ := sf_rd (lo := 0) (hi := 60) (r := 376) I (.inl 164) s rfl (by decide)
    by_cases n0 : a2.toInt < 0
    · rw [if_pos (i_lt rfl k_0 n0)]
      refine Or.inr ⟨rfl, ?_⟩
      rw [w173_0 rfl k_0 (i_sub rfl k_1 (by omega) (by omega)) (by omega), if_pos rfl]
    · rw [if_neg (i_nlt rfl k_0 (by omega))]
      by_cases n1 : (hr.2.1 (.inl 164) s).toInt ≤ a2.toInt
      · rw [if_pos (i_le rfl rfl n1)]
        refine Or.inr ⟨rfl, ?_⟩
        rw [w173_0 rfl k_0 (i_sub rfl k_1 (by omega) (by omega)) (by omega), if_pos rfl]
      · rw [if_neg (i_nle rfl rfl (by omega))]
        refine Or.inl ⟨rfl, ?_⟩
        rw [w173_1 rfl k_0 (i_sub rfl k_1 (by omega) (by omega)) (by omega), if_neg n10]
/-- place answers alike -/
theorem aw_place (I : sf_I hr) (K : rt_S hc hr N) : (f152 a1 a2 v hc).1 = (f304 a1 a2 v hr).1 := by
  have L := f152_eq a1 a2 v hc
  have T := f304_eq a1 a2 v hr
  have T2 : 0 ≤ f303 a1 a2 hr → (f304 a1 a2 v hr).1 = 1 := fun z => by
    rw [T]
    show (if 0 ≤ f303 a1 a2 hr then _ else _ : Int32 × mx_H).1 = 1
    rw [if_pos z]
    split
    · split
      · split
        · split
          · split
            · rfl
            · rfl
          · rfl
        · rfl
      · rfl
    · rfl
  have T3 : ¬ 0 ≤ f303 a1 a2 hr → (f304 a1 a2 v hr).1 = f303 a1 a2 hr := fun z => by
    rw [T]
    show (if 0 ≤ f303 a1 a2 hr then _ else _ : Int32 × mx_H).1 = _
    rw [if_neg z]
  rw [f161_eq, w_ws] at L
  by_cases c1 : f173 a1 0 5 = 0
  · rw [if_neg (fun t => t c1)] at L
    have e : f303 a1 a2 hr = -1 := by rw [f303_eq, f300_eq, if_neg (fun t => t c1)]
    rw [L, T3 (by rw [e]; decide), e]
  · rw [if_pos c1] at L
    have L2 : f152 a1 a2 v hc = if f72 a1 hc = 0 then (if f74 a1 a2 hc ≠ 0 then (1, f76 a1 a2 v hc) else (-13, hc)) else (f72 a1 hc, hc) := L
    rcases aw_pl (a2 := a2) I K c1 with ⟨z0, ⟨z1, z2⟩ | ⟨z1, z2⟩⟩ | ⟨z0, z1⟩
    · rw [L2, if_pos z0, if_pos (by rw [z1]; exact n10), T2 (by rw [z2]; decide)]
    · rw [L2, if_pos z0, if_neg (by rw [z1]; exact fun t => t rfl), T3 (by rw [z2]; decide), z2]
    · have n0 : ¬ f72 a1 hc = 0 := by
        rcases z1 with z1 | z1
        · rw [z1]
          decide
        · rw [z1]
          decide
      have n1 : ¬ 0 ≤ f303 a1 a2 hr := by
        rw [← z0]
        rcases z1 with z1 | z1
        · rw [z1]
          decide
        · rw [z1]
          decide
      rw [L2, if_neg n0, T3 n1, z0]
end RTG
/-! ===== taken: alike ===== -/
section RTH
variable {h hc hr : mx_H} {S N s : Nat} {a1 a2 x y : Int32}
theorem iu_0_0 : f38 0 0 h = f284 0 0 := by
  rw [show f284 0 0 = 1 by rw [f284_eq]; rfl, f38_eq]
  rw [g38_4_eq, if_neg (by decide), if_neg (by decide), if_neg (by decide)]
theorem iu_0_1 : f38 0 1 h = f284 0 1 := by
  rw [show f284 0 1 = 0 by rw [f284_eq]; rfl, f38_eq]
  rw [g38_4_eq, if_neg (by decide), if_neg (by decide), if_pos (by decide)]
  show g38_4 1 (-1) (0 + 1) h = 0
  rw [g38_4_eq, if_neg (by decide), if_pos (by decide)]
theorem iu_0_2 : f38 0 2 h = f284 0 2 := by
  rw [show f284 0 2 = 0 by rw [f284_eq]; rfl, f38_eq]
  rw [g38_4_eq, if_neg (by decide), if_neg (by decide), if_pos (by decide)]
  show g38_4 2 (-1) (0 + 1) h = 0
  rw [g38_4_eq, if_neg (by decide), if_pos (by decide)]
theorem iu_0_3 : f38 0 3 h = f284 0 3 := by
  rw [show f284 0 3 = 0 by rw [f284_eq]; rfl, f38_eq]
  rw [g38_4_eq, if_neg (by decide), if_neg (by decide), if_pos (by decide)]
  show g38_4 3 (-1) (0 + 1) h = 0
  rw [g38_4_eq, if_neg (by decide), if_pos (by decide)]
theorem iu_0_4 : f38 0 4 h = f284 0 4 := by
  rw [show f284 0 4 = 0 by rw [f284_eq]; rfl, f38_eq]
  rw [g38_4_eq, if_neg (by decide), if_neg (by decide), if_pos (by decide)]
  show g38_4 4 (-1) (0 + 1) h = 0
  rw [g38_4_eq, if_neg (by decide), if_pos (by decide)]
theorem iu_0_5 : f38 0 5 h = f284 0 5 := by
  rw [show f284 0 5 = 0 by rw [f284_eq]; rfl, f38_eq]
  rw [g38_4_eq, if_neg (by decide), if_neg (by decide), if_pos (by decide)]
  show g38_4 5 (-1) (0 + 1) h = 0
  rw [g38_4_eq, if_neg (by decide), if_pos (by decide)]
theorem iu_1_0 : f38 1 0 h = f284 1 0 := by
  rw [show f284 1 0 = 1 by rw [f284_eq]; rfl, f38_eq]
  rw [g38_4_eq, if_neg (by decide), if_neg (by decide), if_pos (by decide)]
  show g38_4 0 0 (0 + 1) h = 1
  rw [g38_4_eq, if_neg (by decide), if_neg (by decide), if_neg (by decide)]
theorem iu_1_1 : f38 1 1 h = f284 1 1 := by
  rw [show f284 1 1 = 1 by rw [f284_eq]; rfl, f38_eq]
  rw [g38_4_eq, if_neg (by decide), if_neg (by decide), if_neg (by decide)]
theorem iu_1_2 : f38 1 2 h = f284 1 2 := by
  rw [show f284 1 2 = 0 by rw [f284_eq]; rfl, f38_eq]
  rw [g38_4_eq, if_neg (by decide), if_neg (by decide), if_pos (by decide)]
  show g38_4 2 0 (0 + 1) h = 0
  rw [g38_4_eq, if_neg (by decide), if_neg (by decide), if_pos (by decide)]
  show g38_4 2 (-1) (0 + 1 + 1) h = 0
  rw [g38_4_eq, if_neg (by decide), if_pos (by decide)]
theorem iu_1_3 : f38 1 3 h = f284 1 3 := by
  rw [show f284 1 3 = 0 by rw [f284_eq]; rfl, f38_eq]
  rw [g38_4_eq, if_neg (by decide), if_neg (by decide), if_pos (by decide)]
  show g38_4 3 0 (0 + 1) h = 0
  rw [g38_4_eq, if_neg (by decide), if_neg (by decide), if_pos (by decide)]
  show g38_4 3 (-1) (0 + 1 + 1) h = 0
  rw [g38_4_eq, if_neg (by decide), if_pos (by decide)]
theorem iu_1_4 : f38 1 4 h = f284 1 4 := by
  rw [show f284 1 4 = 0 by rw [f284_eq]; rfl, f38_eq]
  rw [g38_4_eq, if_neg (by decide), if_neg (by decide), if_pos (by decide)]
  show g38_4 4 0 (0 + 1) h = 0
  rw [g38_4_eq, if_neg (by decide), if_neg (by decide), if_pos (by decide)]
  show g38_4 4 (-1) (0 + 1 + 1) h = 0
  rw [g38_4_eq, if_neg (by decide), if_pos (by decide)]
theorem iu_1_5 : f38 1 5 h = f284 1 5 := by
  rw [show f284 1 5 = 0 by rw [f284_eq]; rfl, f38_eq]
  rw [g38_4_eq, if_neg (by decide), if_neg (by decide), if_pos (by decide)]
  show g38_4 5 0 (0 + 1) h = 0
  rw [g38_4_eq, if_neg (by decide), if_neg (by decide), if_pos (by decide)]
  show g38_4 5 (-1) (0 + 1 + 1) h = 0
  rw [g38_4_eq, if_neg (by decide), if_pos (by decide)]
theorem iu_2_0 : f38 2 0 h = f284 2 0 := by
  rw [show f284 2 0 = 1 by rw [f284_eq]; rfl, f38_eq]
  rw [g38_4_eq, if_neg (by decide), if_neg (by decide), if_pos (by decide)]
  show g38_4 0 1 (0 + 1) h = 1
  rw [g38_4_eq, if_neg (by decide), if_neg (by decide), if_pos (by decide)]
  show g38_4 0 0 (0 + 1 + 1) h = 1
  rw [g38_4_eq, if_neg (by decide), if_neg (by decide), if_neg (by decide)]
theorem iu_2_1 : f38 2 1 h = f284 2 1 := by
  rw [show f284 2 1 = 1 by rw [f284_eq]; rfl, f38_eq]
  rw [g38_4_eq, if_neg (by decide), if_neg (by decide), if_pos (by decide)]
  show g38_4 1 1 (0 + 1) h = 1
  rw [g38_4_eq, if_neg (by decide), if_neg (by decide), if_neg (by decide)]
theorem iu_2_2 : f38 2 2 h = f284 2 2 := by
  rw [show f284 2 2 = 1 by rw [f284_eq]; rfl, f38_eq]
  rw [g38_4_eq, if_neg (by decide), if_neg (by decide), if_neg (by decide)]
theorem iu_2_3 : f38 2 3 h = f284 2 3 := by
  rw [show f284 2 3 = 0 by rw [f284_eq]; rfl, f38_eq]
  rw [g38_4_eq, if_neg (by decide), if_neg (by decide), if_pos (by decide)]
  show g38_4 3 1 (0 + 1) h = 0
  rw [g38_4_eq, if_neg (by decide), if_neg (by decide), if_pos (by decide)]
  show g38_4 3 0 (0 + 1 + 1) h = 0
  rw [g38_4_eq, if_neg (by decide), if_neg (by decide), if_pos (by decide)]
  show g38_4 3 (-1) (0 + 1 + 1 + 1) h = 0
  rw [g38_4_eq, if_neg (by decide), if_pos (by decide)]
theorem iu_2_4 : f38 2 4 h = f284 2 4 := by
  rw [show f284 2 4 = 0 by rw [f284_eq]; rfl, f38_eq]
  rw [g38_4_eq, if_neg (by decide), if_neg (by decide), if_pos (by decide)]
  show g38_4 4 1 (0 + 1) h = 0
  rw [g38_4_eq, if_neg (by decide), if_neg (by decide), if_pos (by decide)]
  show g38_4 4 0 (0 + 1 + 1) h = 0
  rw [g38_4_eq, if_neg (by decide), if_neg (by decide), if_pos (by decide)]
  show g38_4 4 (-1) (0 + 1 + 1 + 1) h = 0
  rw [g38_4_eq, if_neg (by decide), if_pos (by decide)]
theorem iu_2_5 : f38 2 5 h = f284 2 5 := by
  rw [show f284 2 5 = 0 by rw [f284_eq]; rfl, f38_eq]
  rw [g38_4_eq, if_neg (by decide), if_neg (by decide), if_pos (by decide)]
  show g38_4 5 1 (0 + 1) h = 0
  rw [g38_4_eq, if_neg (by decide), if_neg (by decide), if_pos (by decide)]
  show g38_4 5 0 (0 + 1 + 1) h = 0
  rw [g38_4_eq, if_neg (by decide), if_neg (by decide), if_pos (by decide)]
  show g38_4 5 (-1) (0 + 1 + 1 + 1) h = 0
  rw [g38_4_eq, if_neg (by decide), if_pos (by decide)]
theorem iu_3_0 : f38 3 0 h = f284 3 0 := by
  rw [show f284 3 0 = 1 by rw [f284_eq]; rfl, f38_eq]
  rw [g38_4_eq, if_neg (by decide), if_neg (by decide), if_pos (by decide)]
  show g38_4 0 0 (0 + 1) h = 1
  rw [g38_4_eq, if_neg (by decide), if_neg (by decide), if_neg (by decide)]
theorem iu_3_1 : f38 3 1 h = f284 3 1 := by
  rw [show f284 3 1 = 0 by rw [f284_eq]; rfl, f38_eq]
  rw [g38_4_eq, if_neg (by decide), if_neg (by decide), if_pos (by decide)]
  show g38_4 1 0 (0 + 1) h = 0
  rw [g38_4_eq, if_neg (by decide), if_neg (by decide), if_pos (by decide)]
  show g38_4 1 (-1) (0 + 1 + 1) h = 0
  rw [g38_4_eq, if_neg (by decide), if_pos (by decide)]
theorem iu_3_2 : f38 3 2 h = f284 3 2 := by
  rw [show f284 3 2 = 0 by rw [f284_eq]; rfl, f38_eq]
  rw [g38_4_eq, if_neg (by decide), if_neg (by decide), if_pos (by decide)]
  show g38_4 2 0 (0 + 1) h = 0
  rw [g38_4_eq, if_neg (by decide), if_neg (by decide), if_pos (by decide)]
  show g38_4 2 (-1) (0 + 1 + 1) h = 0
  rw [g38_4_eq, if_neg (by decide), if_pos (by decide)]
theorem iu_3_3 : f38 3 3 h = f284 3 3 := by
  rw [show f284 3 3 = 1 by rw [f284_eq]; rfl, f38_eq]
  rw [g38_4_eq, if_neg (by decide), if_neg (by decide), if_neg (by decide)]
theorem iu_3_4 : f38 3 4 h = f284 3 4 := by
  rw [show f284 3 4 = 0 by rw [f284_eq]; rfl, f38_eq]
  rw [g38_4_eq, if_neg (by decide), if_neg (by decide), if_pos (by decide)]
  show g38_4 4 0 (0 + 1) h = 0
  rw [g38_4_eq, if_neg (by decide), if_neg (by decide), if_pos (by decide)]
  show g38_4 4 (-1) (0 + 1 + 1) h = 0
  rw [g38_4_eq, if_neg (by decide), if_pos (by decide)]
theorem iu_3_5 : f38 3 5 h = f284 3 5 := by
  rw [show f284 3 5 = 0 by rw [f284_eq]; rfl, f38_eq]
  rw [g38_4_eq, if_neg (by decide), if_neg (by decide), if_pos (by decide)]
  show g38_4 5 0 (0 + 1) h = 0
  rw [g38_4_eq, if_neg (by decide), if_neg (by decide), if_pos (by decide)]
  show g38_4 5 (-1) (0 + 1 + 1) h = 0
  rw [g38_4_eq, if_neg (by decide), if_pos (by decide)]
theorem iu_4_0 : f38 4 0 h = f284 4 0 := by
  rw [show f284 4 0 = 1 by rw [f284_eq]; rfl, f38_eq]
  rw [g38_4_eq, if_neg (by decide), if_neg (by decide), if_pos (by decide)]
  show g38_4 0 1 (0 + 1) h = 1
  rw [g38_4_eq, if_neg (by decide), if_neg (by decide), if_pos (by decide)]
  show g38_4 0 0 (0 + 1 + 1) h = 1
  rw [g38_4_eq, if_neg (by decide), if_neg (by decide), if_neg (by decide)]
theorem iu_4_1 : f38 4 1 h = f284 4 1 := by
  rw [show f284 4 1 = 1 by rw [f284_eq]; rfl, f38_eq]
  rw [g38_4_eq, if_neg (by decide), if_neg (by decide), if_pos (by decide)]
  show g38_4 1 1 (0 + 1) h = 1
  rw [g38_4_eq, if_neg (by decide), if_neg (by decide), if_neg (by decide)]
theorem iu_4_2 : f38 4 2 h = f284 4 2 := by
  rw [show f284 4 2 = 0 by rw [f284_eq]; rfl, f38_eq]
  rw [g38_4_eq, if_neg (by decide), if_neg (by decide), if_pos (by decide)]
  show g38_4 2 1 (0 + 1) h = 0
  rw [g38_4_eq, if_neg (by decide), if_neg (by decide), if_pos (by decide)]
  show g38_4 2 0 (0 + 1 + 1) h = 0
  rw [g38_4_eq, if_neg (by decide), if_neg (by decide), if_pos (by decide)]
  show g38_4 2 (-1) (0 + 1 + 1 + 1) h = 0
  rw [g38_4_eq, if_neg (by decide), if_pos (by decide)]
theorem iu_4_3 : f38 4 3 h = f284 4 3 := by
  rw [show f284 4 3 = 0 by rw [f284_eq]; rfl, f38_eq]
  rw [g38_4_eq, if_neg (by decide), if_neg (by decide), if_pos (by decide)]
  show g38_4 3 1 (0 + 1) h = 0
  rw [g38_4_eq, if_neg (by decide), if_neg (by decide), if_pos (by decide)]
  show g38_4 3 0 (0 + 1 + 1) h = 0
  rw [g38_4_eq, if_neg (by decide), if_neg (by decide), if_pos (by decide)]
  show g38_4 3 (-1) (0 + 1 + 1 + 1) h = 0
  rw [g38_4_eq, if_neg (by decide), if_pos (by decide)]
theorem iu_4_4 : f38 4 4 h = f284 4 4 := by
  rw [show f284 4 4 = 1 by rw [f284_eq]; rfl, f38_eq]
  rw [g38_4_eq, if_neg (by decide), if_neg (by decide), if_neg (by decide)]
theorem iu_4_5 : f38 4 5 h = f284 4 5 := by
  rw [show f284 4 5 = 0 by rw [f284_eq]; rfl, f38_eq]
  rw [g38_4_eq, if_neg (by decide), if_neg (by decide), if_pos (by decide)]
  show g38_4 5 1 (0 + 1) h = 0
  rw [g38_4_eq, if_neg (by decide), if_neg (by decide), if_pos (by decide)]
  show g38_4 5 0 (0 + 1 + 1) h = 0
  rw [g38_4_eq, if_neg (by decide), if_neg (by decide), if_pos (by decide)]
  show g38_4 5 (-1) (0 + 1 + 1 + 1) h = 0
  rw [g38_4_eq, if_neg (by decide), if_pos (by decide)]
theorem iu_5_0 : f38 5 0 h = f284 5 0 := by
  rw [show f284 5 0 = 1 by rw [f284_eq]; rfl, f38_eq]
  rw [g38_4_eq, if_neg (by decide), if_neg (by decide), if_pos (by decide)]
  show g38_4 0 4 (0 + 1) h = 1
  rw [g38_4_eq, if_neg (by decide), if_neg (by decide), if_pos (by decide)]
  show g38_4 0 1 (0 + 1 + 1) h = 1
  rw [g38_4_eq, if_neg (by decide), if_neg (by decide), if_pos (by decide)]
  show g38_4 0 0 (0 + 1 + 1 + 1) h = 1
  rw [g38_4_eq, if_neg (by decide), if_neg (by decide), if_neg (by decide)]
theorem iu_5_1 : f38 5 1 h = f284 5 1 := by
  rw [show f284 5 1 = 1 by rw [f284_eq]; rfl, f38_eq]
  rw [g38_4_eq, if_neg (by decide), if_neg (by decide), if_pos (by decide)]
  show g38_4 1 4 (0 + 1) h = 1
  rw [g38_4_eq, if_neg (by decide), if_neg (by decide), if_pos (by decide)]
  show g38_4 1 1 (0 + 1 + 1) h = 1
  rw [g38_4_eq, if_neg (by decide), if_neg (by decide), if_neg (by decide)]
theorem iu_5_2 : f38 5 2 h = f284 5 2 := by
  rw [show f284 5 2 = 0 by rw [f284_eq]; rfl, f38_eq]
  rw [g38_4_eq, if_neg (by decide), if_neg (by decide), if_pos (by decide)]
  show g38_4 2 4 (0 + 1) h = 0
  rw [g38_4_eq, if_neg (by decide), if_neg (by decide), if_pos (by decide)]
  show g38_4 2 1 (0 + 1 + 1) h = 0
  rw [g38_4_eq, if_neg (by decide), if_neg (by decide), if_pos (by decide)]
  show g38_4 2 0 (0 + 1 + 1 + 1) h = 0
  rw [g38_4_eq, if_neg (by decide), if_neg (by decide), if_pos (by decide)]
  show g38_4 2 (-1) (0 + 1 + 1 + 1 + 1) h = 0
  rw [g38_4_eq, if_neg (by decide), if_pos (by decide)]
theorem iu_5_3 : f38 5 3 h = f284 5 3 := by
  rw [show f284 5 3 = 0 by rw [f284_eq]; rfl, f38_eq]
  rw [g38_4_eq, if_neg (by decide), if_neg (by decide), if_pos (by decide)]
  show g38_4 3 4 (0 + 1) h = 0
  rw [g38_4_eq, if_neg (by decide), if_neg (by decide), if_pos (by decide)]
  show g38_4 3 1 (0 + 1 + 1) h = 0
  rw [g38_4_eq, if_neg (by decide), if_neg (by decide), if_pos (by decide)]
  show g38_4 3 0 (0 + 1 + 1 + 1) h = 0
  rw [g38_4_eq, if_neg (by decide), if_neg (by decide), if_pos (by decide)]
  show g38_4 3 (-1) (0 + 1 + 1 + 1 + 1) h = 0
  rw [g38_4_eq, if_neg (by decide), if_pos (by decide)]
theorem iu_5_4 : f38 5 4 h = f284 5 4 := by
  rw [show f284 5 4 = 1 by rw [f284_eq]; rfl, f38_eq]
  rw [g38_4_eq, if_neg (by decide), if_neg (by decide), if_pos (by decide)]
  show g38_4 4 4 (0 + 1) h = 1
  rw [g38_4_eq, if_neg (by decide), if_neg (by decide), if_neg (by decide)]
theorem iu_5_5 : f38 5 5 h = f284 5 5 := by
  rw [show f284 5 5 = 1 by rw [f284_eq]; rfl, f38_eq]
  rw [g38_4_eq, if_neg (by decide), if_neg (by decide), if_neg (by decide)]
theorem i_05 (b : 0 ≤ x.toInt ∧ x.toInt ≤ 5) : x = 0 ∨ x = 1 ∨ x = 2 ∨ x = 3 ∨ x = 4 ∨ x = 5 := by
  rcases (show x.toInt = 0 ∨ x.toInt = 1 ∨ x.toInt = 2 ∨ x.toInt = 3 ∨ x.toInt = 4 ∨ x.toInt = 5 by omega) with t | t | t | t | t | t
  · exact Or.inl (i_eq t k_0 rfl)
  · exact Or.inr (Or.inl (i_eq t k_1 rfl))
  · exact Or.inr (Or.inr (Or.inl (i_eq t k_2 rfl)))
  · exact Or.inr (Or.inr (Or.inr (Or.inl (i_eq t k_3 rfl))))
  · exact Or.inr (Or.inr (Or.inr (Or.inr (Or.inl (i_eq t k_4 rfl)))))
  · exact Or.inr (Or.inr (Or.inr (Or.inr (Or.inr (i_eq t k_5 rfl)))))
theorem iu_all (bx : 0 ≤ x.toInt ∧ x.toInt ≤ 5) (by' : 0 ≤ y.toInt ∧ y.toInt ≤ 5) : f38 x y h = f284 x y := by
  rcases i_05 bx with rfl | rfl | rfl | rfl | rfl | rfl
  · rcases i_05 by' with rfl | rfl | rfl | rfl | rfl | rfl
    · exact iu_0_0
    · exact iu_0_1
    · exact iu_0_2
    · exact iu_0_3
    · exact iu_0_4
    · exact iu_0_5
  · rcases i_05 by' with rfl | rfl | rfl | rfl | rfl | rfl
    · exact iu_1_0
    · exact iu_1_1
    · exact iu_1_2
    · exact iu_1_3
    · exact iu_1_4
    · exact iu_1_5
  · rcases i_05 by' with rfl | rfl | rfl | rfl | rfl | rfl
    · exact iu_2_0
    · exact iu_2_1
    · exact iu_2_2
    · exact iu_2_3
    · exact iu_2_4
    · exact iu_2_5
  · rcases i_05 by' with rfl | rfl | rfl | rfl | rfl | rfl
    · exact iu_3_0
    · exact iu_3_1
    · exact iu_3_2
    · exact iu_3_3
    · exact iu_3_4
    · exact iu_3_5
  · rcases i_05 by' with rfl | rfl | rfl | rfl | rfl | rfl
    · exact iu_4_0
    · exact iu_4_1
    · exact iu_4_2
    · exact iu_4_3
    · exact iu_4_4
    · exact iu_4_5
  · rcases i_05 by' with rfl | rfl | rfl | rfl | rfl | rfl
    · exact iu_5_0
    · exact iu_5_1
    · exact iu_5_2
    · exact iu_5_3
    · exact iu_5_4
    · exact iu_5_5
theorem aw_taken (I : sf_I hr) (A : rs_A hc hr S N) (K : rt_S hc hr N) : f155 a1 a2 hc = f307 a1 a2 hr := by
  obtain ⟨A1, A2, A3, A4, A5, A6, A7, A8, A9, A10⟩ := A
  have L := f155_eq a1 a2 hc
  have T := f307_eq a1 a2 hr
  rw [f161_eq, f162_eq, w_ws, w_ws] at L
  rw [f300_eq] at T
  by_cases c1 : f173 a1 0 5 = 0
  · rw [if_pos c1] at L T
    rw [L, T]
  · obtain ⟨s, s6, ht⟩ := sh_in c1
    rw [if_neg c1, i_cl ht] at L T
    by_cases c2 : f173 a2 0 5 ≠ 0
    · rw [if_pos c2] at L T
      have b2 : 0 ≤ a2.toInt ∧ a2.toInt ≤ 5 := Classical.byContradiction fun q => c2 (w173_0 rfl k_0 k_5 q)
      rcases K s s6 with ⟨q1, q2⟩ | ⟨q1, b, q2, q3, q4⟩ | ⟨q, q0, q1, q2, q3⟩
      · rw [if_neg (fun z => z q1)] at L
        rw [if_neg (fun z => z q2)] at T
        rw [L, T]
      · rw [if_pos (show hc.2.1 (.inl 95) s ≠ -2 by rw [q1]; decide), if_neg (fun z => z q1), i_cl q3, if_pos (show f163 (hc.2.1 (.inl 97) s) hc ≠ 0 by
          rw [f163_eq, w157_1 q3 k_0 (i_sub A5 k_1 (by omega) (by omega)) (by omega)]
          exact n10)] at L
        rw [if_pos (show hr.2.1 (.inl 163) s ≠ -1 from i_ne q4 k_m1 (by omega)), if_neg (i_nlt q4 k_0 (by omega)), i_cl q4] at T
        have kd := (A10 b q2).1
        have kb := sf_rd (lo := 0) (hi := 5) (r := 328) I (.inl 116) b rfl (by decide)
        rw [kd, iu_all kb b2] at L
        rw [L, T]
      · rw [if_pos (show hc.2.1 (.inl 95) s ≠ -2 from i_ne q1 k_m2 (by omega)), if_pos (show hc.2.1 (.inl 95) s ≠ -1 from i_ne q1 k_m1 (by omega))] at L
        rw [if_pos (show hr.2.1 (.inl 163) s ≠ -1 from i_ne q2 k_m1 (by omega)), if_pos (i_lt q2 k_0 (by omega))] at T
        rw [L, T]
    · rw [if_neg c2] at L T
      rw [L, T]
end RTH
