/-! ===== 84z3: SPLIT, both sides ===== -/
section MU
variable {h g hc hr k : mx_H} {S N C n F s t t' c b m i o : Nat} {a1 a2 a3 a4 x : Int32}
theorem nt_rd (N : nt_N hc k t C) (r : ∀ o i, 30 ≤ o → o ≤ 34 → ¬ (o = 30 ∧ i = 7) → g.2.1 (.inr (t, o)) i = hc.2.1 (.inr (t, o)) i) : nt_N g k t C := by
  obtain ⟨n1, n2, n3, n4, n5⟩ := N
  refine ⟨n1, ?_, n3, fun i hi => ?_, fun i j hi hj => ?_⟩
  · unfold rD
    rw [r _ _ (by decide) (by decide) (by decide)]
    exact n2
  · rw [r _ _ (by decide) (by decide) (by omega), r _ _ (by decide) (by decide) (by omega), r _ _ (by decide) (by decide) (by omega)]
    exact n4 i hi
  · rw [r _ _ (by decide) (by decide) (by omega)]
    exact n5 i j hi hj
theorem nt_kn (N : nt_N hc k t' C) (K : kn_F hc g t) (ne : t' ≠ t) : nt_N g k t' C := nt_rd N (fun o i _ _ _ => K.2.2.2 t' o i (fun q => ne q.1))
theorem nt_uo (N : nt_N hc k t' C) (ne : t' ≠ t) : nt_N (mx_uI hc (.inr (t, o)) i x) k t' C := nt_rd N (fun o' j _ _ _ => rI_a (fun e => by
  cases e
  exact ne rfl))
theorem kn_D (K : kn_F hc g t) (Ds : rs_D hc hr N s C n F) : rs_D g hr N s C n F := rs_D.x (Nat.le_refl _) (fun o i q => K.2.2.2 s o i (by omega)) (fun _ _ _ => rfl) (fun i _ => ⟨rfl, by rw [K.2.1]⟩) Ds
/-- a tone that is asked for, as a number -/
theorem ton_n (z : f173 a2 0 (nI m - 1) = 1) (m6 : m ≤ 6) : ∃ i : Nat, i < m ∧ a2.toInt = (i : Int) := by
  have e := i_sub (nI_toInt (n := m) (by omega)) k_1 (by omega) (by omega)
  by_cases q : (0 : Int) ≤ a2.toInt ∧ a2.toInt ≤ (m : Int) - 1
  · exact ⟨a2.toInt.toNat, by omega, by omega⟩
  · rw [w173_0 (x := a2) rfl k_0 e q] at z
    exact absurd z (by decide)
theorem fl_t (Ds : rs_D hc hr N s C n F) (s12 : s ≤ 12) (h1 : a1.toInt = (s : Int)) (e6 : ∀ i, g.2.1 (.inl 106) i = hr.2.1 (.inl 106) i) (e0 : ∀ i, g.2.1 (.inl 110) i = hr.2.1 (.inl 110) i) (ek : ∀ i, i < C → k.2.1 (.inl 130) i = hr.2.1 (.inl 110) (6 * s + i)) : f195 a1 g = nI (fl k C).length := by
  rw [f195_eq]
  refine fl_195 (hr := g) h1 s12 Ds.2.1 ?_ (fun i hi => ?_) C 0 0 0 (by omega) rfl rfl
  · unfold rD
    rw [e6]
    exact Ds.2.2.2.2.1
  · rw [ek i hi, e0]
theorem aw_split (I : sf_I hr) (A : rs_A hc hr S N) (st : mi_S hr b) (hb : b + 300 < 2147483647) : (f113 a1 a2 a3 a4 hc).1 = (f223 a1 a2 a3 a4 hr).1 := by
  obtain ⟨A1, A2, A3, A4, A5, A6, A7, A8, A9, A10⟩ := id A
  have K := f113_eq a1 a2 a3 a4 hc
  have T := f223_eq a1 a2 a3 a4 hr
  rcases C166 (a := a1) A with ⟨s, lt, h1, e1, e1'⟩ | ⟨e1, e1'⟩
  · obtain ⟨C, n, F, Ds⟩ := (A9 s lt).2
    obtain ⟨d1, d2, d3, d4, d5, d6, d7, d8, -⟩ := id Ds
    rw [e1] at K
    simp only [x_opt] at K
    rw [if_neg (by rw [e1']; exact n10)] at T
    rcases ton_in (a2 := a2) (a3 := a3) (S := S) Ds (by omega) h1 with ⟨z1, z2, z3, z4, z5⟩ | ⟨z1, z2⟩
    · rw [if_neg (by rw [z1]; exact n10)] at K
      rw [if_neg (by rw [z2]; exact n10), if_neg (by rw [z3]; exact n10)] at T
      by_cases c4 : a4 < 0
      · rw [if_pos c4] at K T
        rw [K, T]
      · rw [if_neg c4] at K T
        have p4 : ¬ a4.toInt < 0 := fun w => c4 (i_lt rfl k_0 w)
        have ha : a4.toInt = ((a4.toInt.toNat : Nat) : Int) := by omega
        generalize a4.toInt.toNat = mm at ha
        obtain ⟨t1, t2⟩ := i_ten ha
        by_cases r0 : mm % 10 = 0
        · have r0' : a4 - a4 / 10 * 10 = 0 := i_eq t2 k_0 (by omega)
          rw [if_pos r0'] at K
          rw [r0', if_neg (show ¬ (0 : Int32) ≠ 0 by decide)] at T
          rw [K]
          split at T <;> rw [T]
        · have r0' : ¬ a4 - a4 / 10 * 10 = 0 := i_ne t2 k_0 (by omega)
          rw [if_neg r0'] at K
          rw [if_pos r0'] at T
          rcases C164 (x := a4 / 10) h1 d4 d5 d2 with ⟨c, ltc, h2, y1, y2⟩ | ⟨y1, y2⟩
          · obtain ⟨v1, v2, v3, v4⟩ := d8 c ltc
            rw [if_pos (by rw [y1]; exact n10), i_cl h2, v4, v3] at K
            rw [if_neg (by rw [y2]; exact n10), i_cl (w6 h1 h2 (by omega) (by omega))] at T
            by_cases hl : hr.2.1 (.inl 110) (6 * s + c) ≠ 0
            · rw [if_pos hl] at K T
              rw [K, T]
            · rw [if_neg hl] at K T
              have b9 := sf_rd (lo := 0) (hi := 9) (r := 321) I (.inl 109) (6 * s + c) rfl (by decide)
              have b9' : 0 ≤ (hr.2.1 (.inl 109) (6 * s + c)).toInt := b9.1
              by_cases hw : (hr.2.1 (.inl 109) (6 * s + c)).toInt = 0
              · rw [if_pos (show hr.2.1 (.inl 109) (6 * s + c) = 0 from i_eq hw k_0 rfl)] at K
                rw [if_pos (show hr.2.1 (.inl 109) (6 * s + c) ≤ 0 from i_le hw k_0 (Int.le_refl _))] at T
                obtain ⟨N0, KF0, R, R3, R4⟩ := nt_load (t := 0) I A4 lt A1 A2 Ds h1 rfl
                have V := nt_take I A4 lt A1 A2 Ds h1
                obtain ⟨N1, KF1, -, -, -⟩ := nt_load (t := 1) (hc := f22 0 s hc) I A4 lt A1 A2 (kn_D KF0 Ds) h1 rfl
                have st' := rn_Fs R st
                have C6 := d2
                have len := fl_len (k := f208 a1 hr) C
                generalize hk : f208 a1 hr = k at *
                have tm : ∀ g : mx_H, (∀ i, g.2.1 (.inl 106) i = hr.2.1 (.inl 106) i) → (∀ i, g.2.1 (.inl 110) i = hr.2.1 (.inl 110) i) → f195 a1 g = nI (fl k C).length := fun g q1 q2 => fl_t Ds (by omega) h1 q1 q2 (fun i hi => (R3 i hi).2.2)
                have tm0 := tm hr (fun _ => rfl) (fun _ => rfl)
                rw [tm0] at z2
                obtain ⟨i, im, hi⟩ := ton_n z2 (by omega)
                generalize hm : (fl k C).length = m at *
                -- the weighed corner
                have hh : 1 ≤ (hr.2.1 (.inl 107) (6 * s + c)).toInt ∧ (hr.2.1 (.inl 107) (6 * s + c)).toInt ≤ 9 := ⟨sf_k2 I A4 s c lt (by rw [d5]; omega), (sf_rd (lo := 0) (hi := 9) (r := 319) I (.inl 107) (6 * s + c) rfl (by decide)).2⟩
                obtain ⟨w1, w2, w3⟩ := w_mass (x := hr.2.1 (.inl 107) (6 * s + c)) (w := a4 - a4 / 10 * 10) hh.1 hh.2 (by rw [t2]; omega) (by rw [t2]; omega)
                have w1' : (if hr.2.1 (.inl 107) (6 * s + c) + (a4 - a4 / 10 * 10) < 9 then hr.2.1 (.inl 107) (6 * s + c) + (a4 - a4 / 10 * 10) else 9) = f207 (hr.2.1 (.inl 107) (6 * s + c)) (a4 - a4 / 10 * 10) := by
                  rw [← w1]
                  unfold kn_m
                  rw [i_s0, w24 hh.1 hh.2]
                -- the class
                simp only [x_h, x_let] at K T
                rw [f25_eq, i_cl h2, KF1.2.2.2 s 1 c (by omega), KF0.2.2.2 s 1 c (by omega), v1, w1'] at K
                generalize hX : f207 (hr.2.1 (.inl 107) (6 * s + c)) (a4 - a4 / 10 * 10) = X at *
                have N0' := nt_uo (t := 1) (o := 31) (i := c) (x := X) (nt_kn N0 KF1 (by decide)) (by decide)
                obtain ⟨N1', V2⟩ := nt_wt N1 V w2 w3 c
                obtain ⟨f1, Fc⟩ := TTc N0' V hi (rfl : a3.toInt = a3.toInt) z4 z5
                rw [f1] at K
                have sh : ∀ o i, o < 30 → (f33 0 a2 a3 (mx_uI (f22 1 s (f22 0 s hc)) (.inr (1, 31)) c X)).2.2.1 (.inr (s, o)) i = hc.2.1 (.inr (s, o)) i := fun o i ho => by
                  rw [cm_s Fc ho, rI_a (fun e => by
                    cases e
                    omega), KF1.2.2.2 s o i (by omega), KF0.2.2.2 s o i (by omega)]
                have Kf := S113 (i := i) (a8 := 0) (a9 := 0) V V2 h1 (show s ≤ 12 by omega) C6 d5 tm0 (by omega) (rfl : a3.toInt = a3.toInt) z4 z5 m 0 (by omega) rfl rfl (nt_cm N0' Fc) (nt_cmo N1' Fc (by decide)) ((congrArg Int32.toInt (sh 0 0 (by decide))).trans d4) (fun c hc => (sh 4 c (by decide)).trans (d8 c hc).2.2.2)
                rw [← K] at Kf
                -- the reference
                obtain ⟨F8, M8, W8⟩ := T218 (k := k)
                have kr : ∀ q i, ¬ (128 ≤ q ∧ q ≤ 131) → q ≠ 105 → k.2.1 (.inl q) i = hr.2.1 (.inl q) i := fun q i e1 e2 => R.2.2.2 q i e1 (fun w => e2 w.1)
                rw [tm (f218 k) (fun i => (W8 _ _ (ne_l (by decide))).trans (kr 106 i (by decide) (by decide))) (fun i => (W8 _ _ (ne_l (by decide))).trans (kr 110 i (by decide) (by decide)))] at T
                obtain ⟨g', a7', e2, e3, e4, e5, e6⟩ := R120 (a1 := a1) (a2 := a2) (a4 := a4) (a5 := a4 / 10) N0.2.2.1 C6 V (rfl : nI m = nI m) (by omega) (rfl : a3.toInt = a3.toInt) z4 z5 (b := b) (by omega) m 0 0 (g := f218 k) (by omega) rfl (tv_F.refl.tw F8) (mi_Sf (fun i => W8 _ _ (ne_l (by decide))) (W8 _ _ (ne_l (by decide))) st') (M8 _) (fun i hi => absurd hi (Nat.not_lt_zero _))
                rw [e2, g223_120_eq, if_pos e3] at T
                simp only [x_h] at T
                rw [i_cl h2, i_cl (w6 h1 h2 (by omega) (by omega)), tv_l e4 (by decide) (by decide), kr 107 _ (by decide) (by decide), hX] at T
                have Qg : nt_Q (mx_uI k (.inl 128) c X) (mx_uI g' (.inl 128) c X) := fun x j q1 q2 => by
                  by_cases y : x = 128 ∧ j = c
                  · rw [y.1, y.2, rI_s, rI_s]
                  · by_cases y2 : x = 128
                    · rw [rI_i (fun w => y ⟨y2, w⟩), rI_i (fun w => y ⟨y2, w⟩)]
                      exact tv_Q e4 x j q1 q2
                    · rw [rI_a (ne_l y2), rI_a (ne_l y2)]
                      exact tv_Q e4 x j q1 q2
                obtain ⟨F9, M9, W9⟩ := T218 (k := mx_uI g' (.inl 128) c X)
                have Tf := R184 (k2 := mx_uI g' (.inl 128) c X) (b := b + 42) (f := fb k C a3.toInt) (a7 := 0) (a8 := 0) (a6 := nI m) (a2 := a2) (a3 := a3) (by
                  unfold rD
                  rw [rI_a (ne_l (by decide))]
                  exact (tv_C e4).trans N0.2.2.1) C6 (nt_QV Qg V2) rfl (by omega) hi im rfl z4 z5 (by omega) (fun j hj => by
                  rw [rI_a (ne_l (by decide))]
                  exact e6 j hj) m 0 (by omega) rfl rfl F9 (mi_Sf (fun i => (W9 _ _ (ne_l (by decide))).trans (rI_a (ne_l (by decide)))) ((W9 _ _ (ne_l (by decide))).trans (rI_a (ne_l (by decide)))) e5) (M9 _)
                rw [← T, nt_Qb Qg] at Tf
                rw [Kf, Tf]
              · rw [if_neg (show ¬ hr.2.1 (.inl 109) (6 * s + c) = 0 from i_ne rfl k_0 hw)] at K
                rw [if_neg (show ¬ hr.2.1 (.inl 109) (6 * s + c) ≤ 0 from i_nle rfl k_0 (by omega))] at T
                rw [K, T]
          · rw [if_neg (fun w => w y1)] at K
            rw [if_pos y2] at T
            rw [K, T]
    · rw [if_pos z1] at K
      rcases z2 with z2 | z2
      · rw [if_pos z2] at T
        rw [K, T]
      · by_cases z3 : f173 a2 0 (f195 a1 hr - 1) = 0
        · rw [if_pos z3] at T
          rw [K, T]
        · rw [if_neg z3, if_pos z2] at T
          rw [K, T]
  · rw [e1] at K
    simp only [x_opt] at K
    rw [if_pos e1'] at T
    rw [K, T]
end MU
