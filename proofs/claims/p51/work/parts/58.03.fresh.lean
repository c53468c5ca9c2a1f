/-! ===== the whole text is read alike ===== -/
section RX
variable {hc hr h : mx_H} {L p S C n k : Nat}
theorem rz_O.w {hc0 hr0 g : mx_H} {p0 : Nat} {r : Int32 × mx_H} (o : rz_O S L C p hc hr r g) (a : rz_FC S hc0 hc) (b : rz_FR S hr0 hr) (hp : p0 ≤ p) : rz_O S L C p0 hc0 hr0 r g := by
  obtain ⟨o1, o2, o3⟩ := o
  refine ⟨a.trans o1, b.trans o2, ?_⟩
  rcases o3 with ⟨q1, q2, p', n', q3, q4, q5⟩ | q
  · exact Or.inl ⟨q1, q2, p', n', by omega, q4, q5⟩
  · exact Or.inr q
theorem C88 (S : Nat) (h : mx_H) : f88 S h = if f92 h = 59 then (if f92 (rz_c h) = 112 then g88_52 S (f92 (rz_c h)) (rz_c h) else if f92 (rz_c h) = 115 then g88_52 S (f92 (rz_c h)) (rz_c h) else if f92 (rz_c h) = 104 then g88_52 S (f92 (rz_c h)) (rz_c h) else if f92 (rz_c h) = 119 then g88_52 S (f92 (rz_c h)) (rz_c h) else (0, rz_c h)) else (0, h) := f88_eq S h
theorem C88g (S : Nat) (a2 : Int32) (h : mx_H) : g88_52 S a2 h = if a2 ≠ 112 then (if a2 ≠ 104 then (if a2 ≠ 115 then f91 S (.inr (S, 3)) (rz_c h) else f91 S (.inr (S, 2)) (rz_c h)) else f90 S (rz_c h)) else f89 S (rz_c h) := g88_52_eq S a2 h
theorem R191 (h : mx_H) : f191 h = if f185 h = 112 then g191_34 (f185 h) h else if f185 h = 115 then g191_34 (f185 h) h else if f185 h = 104 then g191_34 (f185 h) h else if f185 h = 119 then g191_34 (f185 h) h else f186 h := f191_eq h
theorem rz_part (t : rz_T hc hr L p) (K : rz_C hc hr S C n) (hF : rD hr (.inl 105) 18 = -1) (hS : rD hr (.inl 105) 1 = S) (S11 : S ≤ 12) (sm : f92 hc = 59) (pl : p < L) : rz_O S L C p hc hr (f88 S hc) (f191 (rz_r hr)) := by
  have t1 := rz_adv t pl
  have a1 : rz_FC S hc (rz_c (rz_c hc)) := rz_FCc (rz_FCc rz_FC.refl)
  have b1 : rz_FR S hr (rz_r hr) := rz_FRr rz_FR.refl
  have K2 : rz_C (rz_c (rz_c hc)) (rz_r (rz_r hr)) S C n := rz_Cc (rz_Cc (rz_Cr (rz_Cr K)))
  have hF1 : rD (rz_r hr) (.inl 105) 18 = -1 := hF
  have hS1 : rD (rz_r hr) (.inl 105) 1 = S := hS
  rw [C88, if_pos sm, R191]
  rcases rz_is t1 k_112 (by omega) (by omega) with ⟨e1, e2, pl1⟩ | ⟨e1, e2⟩
  · rw [e1, e2, if_pos rfl, if_pos rfl, C88g, if_neg (fun q => q rfl)]
    exact (rz_piece (rz_adv t1 pl1) K2 hF1 hS1 S11).w a1 b1 (by omega)
  · rw [if_neg e1, if_neg e2]
    rcases rz_is t1 k_115 (by omega) (by omega) with ⟨e3, e4, pl1⟩ | ⟨e3, e4⟩
    · rw [e3, e4, if_pos rfl, if_pos rfl, C88g, if_pos (show (115 : Int32) ≠ 112 by decide +kernel), if_pos (show (115 : Int32) ≠ 104 by decide +kernel), if_neg (fun q => q rfl)]
      exact (rz_pad (rz_adv t1 pl1) K2 hF1 hS1 S11).w a1 b1 (by omega)
    · rw [if_neg e3, if_neg e4]
      rcases rz_is t1 k_104 (by omega) (by omega) with ⟨e5, e6, pl1⟩ | ⟨e5, e6⟩
      · rw [e5, e6, if_pos rfl, if_pos rfl, C88g, if_pos (show (104 : Int32) ≠ 112 by decide +kernel), if_neg (fun q => q rfl)]
        exact (rz_hold (rz_adv t1 pl1) K2 hF1 hS1 S11).w a1 b1 (by omega)
      · rw [if_neg e5, if_neg e6]
        rcases rz_is t1 k_119 (by omega) (by omega) with ⟨e7, e8, pl1⟩ | ⟨e7, e8⟩
        · rw [e7, e8, if_pos rfl, if_pos rfl, C88g, if_pos (show (119 : Int32) ≠ 112 by decide +kernel), if_pos (show (119 : Int32) ≠ 104 by decide +kernel), if_pos (show (119 : Int32) ≠ 115 by decide +kernel)]
          exact (rz_wgt (rz_adv t1 pl1) K2 hF1 hS1 S11).w a1 b1 (by omega)
        · rw [if_neg e7, if_neg e8]
          exact rz_bad (C := C) t1 hF1 rz_FC.refl b1 rfl (rz_FCc rz_FC.refl)
/-- how a text ends -/
def rz_E (S C : Nat) (hc hr : mx_H) (r : Int32 × mx_H) (hr' : mx_H) : Prop :=
  rz_FC S hc r.2 ∧ rz_FR S hr hr' ∧ ((r.1 = -1 ∧ rD hr' (.inl 105) 18 = -1 ∧ ∃ n, rz_C r.2 hr' S C n) ∨ (0 ≤ r.1.toInt ∧ 0 ≤ rD hr' (.inl 105) 18))
theorem C86g (S : Nat) (a2 a3 : Int32) (h : mx_H) : g86_17 S a2 a3 h = if a2 = 0 then (h.2.1 (.inl 1) 2, h) else if h.2.1 (.inl 1) 1 ≤ h.2.1 (.inl 1) 2 then (-1, h) else if 120 ≤ a3 then (-1, h) else g86_17 S (f88 S h).1 (a3 + 1) (f88 S h).2 := by
  rw [g86_17_eq]
  by_cases e : a2 = 0
  · simp only [e, ↓reduceIte]
  · simp only [e, ↓reduceIte]
    rfl
theorem R154 (h : mx_H) : g192_154 h = if 0 ≤ h.2.1 (.inl 105) 18 then h else if f185 h ≠ 59 then (if h.2.1 (.inl 105) 16 ≤ h.2.1 (.inl 105) 17 then h else f186 h) else g192_154 (f191 (rz_r h)) := by
  rw [g192_154_eq]
  by_cases e : 0 ≤ h.2.1 (.inl 105) 18
  · simp only [e, ↓reduceIte]
  · simp only [e, ↓reduceIte]
    rfl
theorem rz_FRf {g0 g : mx_H} (b : rz_FR S g0 g) (hF : rD g (.inl 105) 18 = -1) : rz_FR S g0 (f186 g) := by
  rw [G186 hF]
  exact b.u (Or.inl ⟨rfl, Or.inr (Or.inl rfl)⟩)
theorem rz_loop : ∀ (m : Nat) {hc hr : mx_H} {p n : Nat} {x a3 : Int32} {j : Nat}, L - p < m → a3.toInt = (j : Int) → j ≤ p → ¬ x = 0 → rz_T hc hr L p → rz_C hc hr S C n → rD hr (.inl 105) 18 = -1 → rD hr (.inl 105) 1 = S → S ≤ 12 → rz_E S C hc hr (g86_17 S x a3 hc) (g192_154 hr)
  | 0, _, _, _, _, _, _, _, hm, _, _, _, _, _, _, _, _ => absurd hm (Nat.not_lt_zero _)
  | m + 1, hc, hr, p, n, x, a3, j, hm, ha, hj, hx, t, K, hF, hS, S11 => by
    rw [C86g, if_neg hx, R154, if_neg (i_nle k_0 hF (by omega))]
    obtain ⟨l, pl, t1, t2, t3, t4, tb⟩ := id t
    by_cases e : p = L
    · have ns : f185 hr ≠ 59 := by
        rcases rz_is t k_59 (by omega) (by omega) with ⟨-, -, q⟩ | ⟨-, q⟩
        · omega
        · exact q
      rw [if_pos (i_le t1 t2 (by omega)), if_pos ns, if_pos (i_le t3 t4 (by omega))]
      exact ⟨rz_FC.refl, rz_FR.refl, Or.inl ⟨rfl, hF, n, K⟩⟩
    · rw [if_neg (i_nle t1 t2 (by omega)), if_neg (i_nle k_120 ha (by omega))]
      rcases rz_is t k_59 (by omega) (by omega) with ⟨e1, e2, pl1⟩ | ⟨e1, e2⟩
      · rw [if_neg (fun q => q e2)]
        obtain ⟨o1, o2, o3⟩ := rz_part t K hF hS S11 e1 pl1
        rcases o3 with ⟨q1, q2, p', n', q3, q4, q5⟩ | ⟨q1, q2, q3⟩
        · have hS' : rD (f191 (rz_r hr)) (.inl 105) 1 = S := by
            unfold rD
            rw [o2.2.2.2 105 1 (by unfold rz_w; omega)]
            exact hS
          have ih := rz_loop m (x := (f88 S hc).1) (a3 := a3 + 1) (j := j + 1) (by omega) (by rw [i_add ha k_1 (by omega) (by omega)]; omega) (by omega) q1 q4 q5 q2 hS' S11
          exact ⟨o1.trans ih.1, o2.trans ih.2.1, ih.2.2⟩
        · rw [C86g, if_pos q1, R154, if_pos (i_le k_0 rfl q2)]
          exact ⟨o1, o2, Or.inr ⟨q3, q2⟩⟩
      · have c : f88 S hc = (0, hc) := by rw [C88, if_neg e1]
        rw [if_pos e2, if_neg (i_nle t3 t4 (by omega)), c, C86g, if_pos rfl]
        refine ⟨rz_FC.refl, rz_FRf rz_FR.refl hF, Or.inr ⟨?_, ?_⟩⟩
        · show 0 ≤ rD hc (.inl 1) 2
          omega
        · rw [G186 hF]
          show 0 ≤ rD hr (.inl 105) 17
          omega
/-- corners -/
theorem C87g (S : Nat) (a2 : Int32) (h : mx_H) : g87_23 S a2 h = if 6 ≤ a2 then (if h.2.1 (.inr (S, 0)) 0 ≤ 0 then (0, h) else (1, h)) else if f93 h ≤ 0 then (if h.2.1 (.inr (S, 0)) 0 ≤ 0 then (0, h) else (1, h)) else g87_23 S (a2 + 1) (rz_c (mx_uI (mx_uI h (.inr (S, 1)) (Int32.toNatClampNeg a2) (f93 h)) (.inr (S, 0)) 0 (a2 + 1))) := g87_23_eq S a2 h
theorem R75 (h : mx_H) : g192_75 h = if 6 ≤ h.2.1 (.inl 106) (Int32.toNatClampNeg (h.2.1 (.inl 105) 1)) then (if h.2.1 (.inl 106) (Int32.toNatClampNeg (h.2.1 (.inl 105) 1)) ≠ 0 then g192_154 h else g192_154 (f186 h)) else if f187 h = 0 then (if h.2.1 (.inl 106) (Int32.toNatClampNeg (h.2.1 (.inl 105) 1)) ≠ 0 then g192_154 h else g192_154 (f186 h)) else x_let (f188 h) (fun x10 h9 => g192_75 (mx_uI (mx_uI h9 (.inl 107) (Int32.toNatClampNeg (6 * h.2.1 (.inl 105) 1 + h.2.1 (.inl 106) (Int32.toNatClampNeg (h.2.1 (.inl 105) 1)))) x10) (.inl 106) (Int32.toNatClampNeg (h9.2.1 (.inl 105) 1)) (h9.2.1 (.inl 106) (Int32.toNatClampNeg (h9.2.1 (.inl 105) 1)) + 1))) := g192_75_eq h
theorem rz_exit (t : rz_T hc hr L p) (K : rz_C hc hr S k 0) (hF : rD hr (.inl 105) 18 = -1) (hS : rD hr (.inl 105) 1 = S) (S11 : S ≤ 12) :
    ∃ C, 1 ≤ C ∧ rz_E S C hc hr (x_let (if hc.2.1 (.inr (S, 0)) 0 ≤ 0 then ((0 : Int32), hc) else (1, hc)) (fun g h => g86_17 S g 0 h)) (if hr.2.1 (.inl 106) S ≠ 0 then g192_154 hr else g192_154 (f186 hr)) := by
  have k1 := K.2.1
  have k2 := K.2.2.1
  by_cases e : k = 0
  · refine ⟨1, Nat.le_refl _, ?_⟩
    rw [if_pos (i_le k1 k_0 (by omega)), if_neg (fun q => q (i_eq k2 k_0 (by omega)))]
    show rz_E S 1 hc hr (g86_17 S 0 0 hc) (g192_154 (f186 hr))
    have z : 0 ≤ rD (f186 hr) (.inl 105) 18 := by
      rw [G186 hF]
      show 0 ≤ rD hr (.inl 105) 17
      rw [t.2.2.2.2.2.1]
      omega
    rw [C86g, if_pos rfl, R154, if_pos (i_le k_0 rfl z)]
    refine ⟨rz_FC.refl, rz_FRf rz_FR.refl hF, Or.inr ⟨?_, z⟩⟩
    show 0 ≤ rD hc (.inl 1) 2
    rw [t.2.2.2.1]
    omega
  · refine ⟨k, by omega, ?_⟩
    rw [if_neg (i_nle k1 k_0 (by omega)), if_pos (i_ne k2 k_0 (by omega))]
    exact rz_loop (L - p + 1) (j := 0) (by omega) rfl (by omega) n10 t K hF hS S11
theorem rz_corn : ∀ (m : Nat) {hc hr : mx_H} {p k : Nat} {a2 : Int32}, 6 - k < m → a2.toInt = (k : Int) → rz_T hc hr L p → rz_C hc hr S k 0 → rD hr (.inl 105) 18 = -1 → rD hr (.inl 105) 1 = S → S ≤ 12 →
    ∃ C, 1 ≤ C ∧ rz_E S C hc hr (x_let (g87_23 S a2 hc) (fun g h => g86_17 S g 0 h)) (g192_75 hr)
  | 0, _, _, _, _, _, hm, _, _, _, _, _, _ => absurd hm (Nat.not_lt_zero _)
  | m + 1, hc, hr, p, k, a2, hm, ha, t, K, hF, hS, S11 => by
    have cS : Int32.toNatClampNeg (hr.2.1 (.inl 105) 1) = S := i_cl hS
    obtain ⟨C6, k1, k2, k3, k4, k5, k6, kP⟩ := id K
    rw [C87g, R75, cS]
    by_cases e : k = 6
    · rw [if_pos (i_le k_6 ha (by omega)), if_pos (i_le k_6 k2 (by omega))]
      exact rz_exit t K hF hS S11
    · rw [if_neg (i_nle k_6 ha (by omega)), if_neg (i_nle k_6 k2 (by omega))]
      rcases rz_dig t with ⟨d, d1, d9, pl, dv, d8, d7⟩ | ⟨d0, d7, -⟩
      · rw [if_neg (i_nle dv k_0 (by omega)), if_neg d7, d8, i_cl ha, i_cl (w6 hS k2 (by omega) (by omega))]
        show ∃ C, 1 ≤ C ∧ rz_E S C hc hr (x_let (g87_23 S (a2 + 1) (rz_c (mx_uI (mx_uI hc (.inr (S, 1)) k (f93 hc)) (.inr (S, 0)) 0 (a2 + 1)))) (fun g h => g86_17 S g 0 h)) (g192_75 (mx_uI (mx_uI (rz_r hr) (.inl 107) (6 * S + k) (f93 hc)) (.inl 106) (Int32.toNatClampNeg (hr.2.1 (.inl 105) 1)) (hr.2.1 (.inl 106) (Int32.toNatClampNeg (hr.2.1 (.inl 105) 1)) + 1)))
        rw [cS]
        have ha' : (a2 + 1).toInt = ((k + 1 : Nat) : Int) := by
          rw [i_add ha k_1 (by omega) (by omega)]
          omega
        have K' : rz_C (rz_c (mx_uI (mx_uI hc (.inr (S, 1)) k (f93 hc)) (.inr (S, 0)) 0 (a2 + 1))) (mx_uI (mx_uI (rz_r hr) (.inl 107) (6 * S + k) (f93 hc)) (.inl 106) S (hr.2.1 (.inl 106) S + 1)) S (k + 1) 0 := by
          have hP : rz_P (rz_c (mx_uI (mx_uI hc (.inr (S, 1)) k (f93 hc)) (.inr (S, 0)) 0 (a2 + 1))) (mx_uI (mx_uI (rz_r hr) (.inl 107) (6 * S + k) (f93 hc)) (.inl 106) S (hr.2.1 (.inl 106) S + 1)) S k 0 := by
            refine rz_P.x ?_ ?_ ?_ ?_ rfl rfl rfl rfl rfl kP
            · show (mx_uI (mx_uI hc (.inr (S, 1)) k (f93 hc)) (.inr (S, 0)) 0 (a2 + 1)).2.1 (.inr (S, 5)) = _
              rw [rS (by decide +kernel), rS (by decide +kernel)]
            · show (mx_uI (mx_uI hc (.inr (S, 1)) k (f93 hc)) (.inr (S, 0)) 0 (a2 + 1)).2.1 (.inr (S, 6)) = _
              rw [rS (by decide +kernel), rS (by decide +kernel)]
            · show (mx_uI (mx_uI hc (.inr (S, 1)) k (f93 hc)) (.inr (S, 0)) 0 (a2 + 1)).2.1 (.inr (S, 7)) = _
              rw [rS (by decide +kernel), rS (by decide +kernel)]
            · show (mx_uI (mx_uI hc (.inr (S, 1)) k (f93 hc)) (.inr (S, 0)) 0 (a2 + 1)).2.1 (.inr (S, 8)) = _
              rw [rS (by decide +kernel), rS (by decide +kernel)]
          refine ⟨by omega, ?_, ?_, ?_, k4, fun c q => ?_, fun c q => ?_, fun q hq => absurd hq (Nat.not_lt_zero _), fun u v hu hv => ?_, hP.2.2.1, fun q q' u v hq => absurd hq (Nat.not_lt_zero _)⟩
          · show ((mx_uI (mx_uI hc (.inr (S, 1)) k (f93 hc)) (.inr (S, 0)) 0 (a2 + 1)).2.1 (.inr (S, 0)) 0).toInt = _
            rw [rI_s]
            exact ha'
          · show ((mx_uI (mx_uI (rz_r hr) (.inl 107) (6 * S + k) (f93 hc)) (.inl 106) S (hr.2.1 (.inl 106) S + 1)).2.1 (.inl 106) S).toInt = _
            rw [rI_s, i_add k2 k_1 (by omega) (by omega)]
            omega
          · show ((mx_uI (mx_uI hc (.inr (S, 1)) k (f93 hc)) (.inr (S, 0)) 0 (a2 + 1)).2.1 (.inr (S, 0)) 6).toInt = _
            rw [rI_i (by decide +kernel), rS (by decide +kernel)]
            exact k3
          · show (mx_uI (mx_uI hc (.inr (S, 1)) k (f93 hc)) (.inr (S, 0)) 0 (a2 + 1)).2.1 (.inr (S, 1)) c = (mx_uI (rz_r hr) (.inl 107) (6 * S + k) (f93 hc)).2.1 (.inl 107) (6 * S + c)
            rw [rS (show 1 ≠ 0 by decide +kernel)]
            by_cases e : c = k
            · rw [rI_c rfl e, rI_c rfl (by omega)]
            · rw [rI_i e, rI_i (by omega)]
              exact k5 c (by omega)
          · show (mx_uI (mx_uI hc (.inr (S, 1)) k (f93 hc)) (.inr (S, 0)) 0 (a2 + 1)).2.1 (.inr (S, 2)) c = _ ∧ (mx_uI (mx_uI hc (.inr (S, 1)) k (f93 hc)) (.inr (S, 0)) 0 (a2 + 1)).2.1 (.inr (S, 3)) c = _ ∧ (mx_uI (mx_uI hc (.inr (S, 1)) k (f93 hc)) (.inr (S, 0)) 0 (a2 + 1)).2.1 (.inr (S, 4)) c = _ ∧ (_ ↔ (mx_uI (mx_uI hc (.inr (S, 1)) k (f93 hc)) (.inr (S, 0)) 0 (a2 + 1)).2.1 (.inr (S, 2)) c = 0) ∧ (_ ↔ (mx_uI (mx_uI hc (.inr (S, 1)) k (f93 hc)) (.inr (S, 0)) 0 (a2 + 1)).2.1 (.inr (S, 3)) c = 0)
            rw [rS (show 2 ≠ 0 by decide +kernel), rS (show 3 ≠ 0 by decide +kernel), rS (show 4 ≠ 0 by decide +kernel), rS (show 2 ≠ 1 by decide +kernel), rS (show 3 ≠ 1 by decide +kernel), rS (show 4 ≠ 1 by decide +kernel)]
            exact k6 c q
          · rcases hP.2.1 u v hu hv with z | ⟨q, q1, -⟩
            · exact Or.inl z
            · exact absurd q1 (Nat.not_lt_zero _)
        have t' : rz_T (rz_c (mx_uI (mx_uI hc (.inr (S, 1)) k (f93 hc)) (.inr (S, 0)) 0 (a2 + 1))) (mx_uI (mx_uI (rz_r hr) (.inl 107) (6 * S + k) (f93 hc)) (.inl 106) S (hr.2.1 (.inl 106) S + 1)) L (p + 1) := rz_adv t pl
        obtain ⟨C, c1, E⟩ := rz_corn m (by omega) ha' t' K' hF hS S11
        refine ⟨C, c1, (rz_FCc ((rz_FC.refl.s (by decide +kernel)).s (by decide +kernel))).trans E.1, ?_, E.2.2⟩
        exact (((rz_FRr rz_FR.refl).u (by unfold rz_w; omega)).u (by unfold rz_w; omega)).trans E.2.1
      · rw [if_pos (i_le (congrArg Int32.toInt d0) k_0 (by decide +kernel)), if_pos d7]
        exact rz_exit t K hF hS S11
end RX
