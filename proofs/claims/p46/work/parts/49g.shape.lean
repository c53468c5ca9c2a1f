/-! ===== methods that end and keep their bounds: written by program, checked by Lean ===== -/
set_option maxRecDepth 10000 in
theorem sf194 {E : mx_Ev} {d : Nat} {h : mx_H} {Q : Option mx_V → mx_H → Prop}   (hI : sf_I h) (hQ : ∀ x h', sf_I h' → sf_E 67530832130916512937480407533443205100368203768325352750423564896418166766327142107240119214255636480 h h' → sf_iv (-1000) 11 x → Q (some (.inl (.int x))) h') : mx_C E (mx_fn true) (d + 6) 194 [.inr (.inl 105)] h Q :=
  sg194_0 ⟨fun g13 => (sf192 (show (h.2.1 (.inl 105) 1 : Int32).toInt ≤ 11 from (by have ⟨b14, b14_⟩ := (show sf_iv 0 11 (h.2.1 (.inl 105) 1) from (iv_w (c := 0) (d := 11) (iv_nel g13 (srd_225_105_1 hI) ivk_12) (by decide +kernel))); have f15 := li_ne g13 (show (h.2.1 (.inl 105) 1 : Int32).toInt = (h.2.1 (.inl 105) 1).toInt from rfl) ivt_12; omega)) hI (fun h16 I17 E18 y19 => hx_n ⟨fun g20 => ⟨fun g21 => sf194_s hQ (sf_uI (r := 240) I17 rfl ivk_0 (by decide +kernel)) (sd_Gu (r := 240) rfl (by decide +kernel) y19) (show ((mx_uI h16 (.inl 105) 16 0).2.1 (.inl 105) 12 : Int32).toInt + ((mx_uI h16 (.inl 105) 16 0).2.1 (.inl 105) 19 : Int32).toInt ≤ 200 from (show ((mx_uI h16 (.inl 105) 16 0).2.1 (.inl 105) 12 : Int32).toInt + ((mx_uI h16 (.inl 105) 16 0).2.1 (.inl 105) 19 : Int32).toInt ≤ 200 from (by have ⟨b24, b24_⟩ := (show sf_iv 0 15 (h16.2.1 (.inl 105) 19) from (srd_243_105_19 I17)); have ⟨b25, b25_⟩ := (show sf_iv 0 200 (h.2.1 (.inl 105) 12) from (srd_236_105_12 hI)); have ⟨b26, b26_⟩ := (show sf_iv (-1) (-1) (h16.2.1 (.inl 105) 18) from (iv_w (c := -1) (d := -1) (iv_ltl g20 (srd_242_105_18 I17) ivk_0) (by decide +kernel))); have ⟨b27, b27_⟩ := (show sf_iv 0 11 (h.2.1 (.inl 105) 1) from (iv_w (c := 0) (d := 11) (iv_nel g13 (srd_225_105_1 hI) ivk_12) (by decide +kernel))); have f28 := li_ne g13 (show (h.2.1 (.inl 105) 1 : Int32).toInt = (h.2.1 (.inl 105) 1).toInt from rfl) ivt_12; have f29 := li_lt g20 (show (h16.2.1 (.inl 105) 18 : Int32).toInt = (h16.2.1 (.inl 105) 18).toInt from rfl) ivt_0; have f30 := li_le g21 (show ((h16.2.1 (.inl 105) 12) + (h16.2.1 (.inl 105) 19) : Int32).toInt = ((h.2.1 (.inl 105) 12).toInt + (h16.2.1 (.inl 105) 19).toInt) from (li_add (iv_e (sf_fr (r := 236) E18 rfl (by decide +kernel)) (srd_236_105_12 hI)) (srd_243_105_19 I17) (by decide +kernel) (li_e (sf_fr (r := 236) E18 rfl (by decide +kernel)) rfl) rfl)) ivt_200; have e22 := (show ((mx_uI h16 (.inl 105) 16 0).2.1 (.inl 105) 12 : Int32).toInt = (h.2.1 (.inl 105) 12).toInt from (li_g (by decide +kernel) (li_e (sf_fr (r := 236) E18 rfl (by decide +kernel)) rfl))); have e23 := (show ((mx_uI h16 (.inl 105) 16 0).2.1 (.inl 105) 19 : Int32).toInt = (h16.2.1 (.inl 105) 19).toInt from (li_g (by decide +kernel) rfl)); omega))) (sf_Eu (r := 240) rfl (by decide +kernel) (sf_Et (by decide +kernel) (sf_E0 _ _) E18)), fun g31 => hQ _ _ I17 (sf_Et (by decide +kernel) (sf_E0 _ _) E18) (iv_w (c := -1000) (d := 11) ivk_m3 (by decide +kernel))  ⟩, fun g32 => hQ _ _ (sf_uI (r := 240) I17 rfl ivk_0 (by decide +kernel)) (sf_Eu (r := 240) rfl (by decide +kernel) (sf_Et (by decide +kernel) (sf_E0 _ _) E18)) (iv_w (c := -1000) (d := 11) (iv_sub (lo := -220) (hi := -100) ivk_m100 (iv_g (by decide +kernel) (iv_w (c := 0) (d := 120) (iv_ler (Int32.not_lt.mp g32) ivk_0 (srd_242_105_18 I17)) (by decide +kernel))) (by decide +kernel)) (by decide +kernel))  ⟩)), fun g33 => hQ _ _ hI (sf_E0 _ _) (iv_w (c := -1000) (d := 11) ivk_m3 (by decide +kernel))  ⟩
/-! ===== reference: pieces copied to the shape that is made ===== -/
theorem sd_P_mono {h : mx_H} {F : Nat} {b c : Int} (hbc : b ≤ c) (x : Nat) (q : sd_P h F b x = true) : sd_P h F c x = true := by
  unfold sd_P at *
  simp only [Bool.and_eq_true, decide_eq_true_eq] at *
  omega
theorem sd_P_c {h h' : mx_H} {F S : Nat} (hF : F < S) (e : ∀ p, p < 36 * S → h'.2.1 (.inl 113) p = h.2.1 (.inl 113) p) (b : Int) : ∀ x ∈ sd_CL, sd_P h F b x = true → sd_P h' F b x = true := by
  intro x hx q
  have : x < 36 := by
    have A : ∀ y ∈ sd_CL, y < 36 := by decide +kernel
    exact A x hx
  unfold sd_P at *
  rw [e _ (by omega)]
  exact q
def sd_fr (h0 h : mx_H) (S : Nat) : Prop := (∀ q, h.2.1 (.inl 106) q = h0.2.1 (.inl 106) q) ∧ (∀ p, p < 36 * S → h.2.1 (.inl 113) p = h0.2.1 (.inl 113) p)
def sd_W (h0 h : mx_H) (F S Y N0 b N : Nat) : Prop := sf_I (sd_u h S) ∧ h.2.1 (.inl 105) 1 = nI S ∧ h.2.1 (.inl 105) 12 = nI N ∧ N0 ≤ N ∧ N ≤ N0 + sd_C sd_CL (sd_P h0 F (b : Int)) ∧ sd_fr h0 h S ∧
  (∀ x, x < N → ∀ a c, a < 6 → c < 6 → (h.2.1 (.inl 117) x).toInt = ((36 * S + 6 * a + c : Nat) : Int) + 1 → (a < Y ∧ c < Y) ∨ ∃ b', b' < b ∧ ∃ x' y', x' < 6 ∧ y' < 6 ∧ (h.2.1 (.inl 117) b').toInt = ((36 * F + 6 * x' + y' : Nat) : Int) + 1 ∧ a = x' + Y ∧ c = y' + Y)
theorem sd_Wn {h0 h : mx_H} {F S Y N0 b N : Nat} (w : sd_W h0 h F S Y N0 b N) : sd_W h0 h F S Y N0 (b + 1) N := by
  obtain ⟨w1, w2, w3, w4, w5, w6, w7⟩ := w
  refine ⟨w1, w2, w3, w4, Nat.le_trans w5 (Nat.add_le_add_left (sd_C_mono (fun x _ q => sd_P_mono (by omega) x q)) _), w6, fun x hx a c ha hc e => ?_⟩
  rcases w7 x hx a c ha hc e with q | ⟨b', hb', r⟩
  · exact Or.inl q
  · exact Or.inr ⟨b', by omega, r⟩
theorem nI_ne {a b : Nat} (ha : a < 2 ^ 31) (hb : b < 2 ^ 31) (e : nI a = nI b) : a = b := by
  have := congrArg Int32.toInt e
  rw [nI_toInt ha, nI_toInt hb] at this
  omega
theorem sd278_9 {E : mx_Ev} {d : Nat} {g0 h0 : mx_H} {Q : Option mx_V → mx_H → Prop} {F S Y cF N0 : Nat} (hF : F < S) (hS : S ≤ 11) (hcF : h0.2.1 (.inl 106) F = nI cF) (hY : ((Y + cF : Nat) : Int) ≤ (h0.2.1 (.inl 106) S).toInt) (hY6 : Y + cF ≤ 6) (hN : N0 + sd_C sd_CL (sd_P h0 F 1000) ≤ 199)
    (hQ : ∀ h' N, sd_W h0 h' F S Y N0 N0 N → sf_E 1760053317598829907893497885994138883981277547020837976232794692084726797597973998101521147216527360 g0 h' → Q none h') : ∀ (m b N : Nat) {h : mx_H}, N0 - b < m → b ≤ N0 → sd_W h0 h F S Y N0 b N → sf_E 1760053317598829907893497885994138883981277547020837976232794692084726797597973998101521147216527360 g0 h →
    mx_T E (mx_fn true) (d + 3) 0 0 278 9 [(0, .inr (.inl 105)), (1, .inl (.int (nI F))), (2, .inl (.int (nI S))), (3, .inl (.int (nI Y))), (4, .inl (.int (nI N0))), (5, .inl (.int (nI b)))] [] h Q
  | 0, _, _, _, hm, _, _, _ => absurd hm (Nat.not_lt_zero _)
  | m + 1, b, N, h, hm, hb, hW, hE => by
    refine sg278_9 ⟨fun g => ?_, fun g => ?_⟩
    · have g' := Int32.le_iff_toInt_le.mp g
      rw [nI_toInt (by omega), nI_toInt (by omega)] at g'
      have : b = N0 := by omega
      subst this
      exact hQ _ _ hW hE
    have g' := Int32.lt_iff_toInt_lt.mp (Int32.not_le.mp g)
    rw [nI_toInt (by omega), nI_toInt (by omega)] at g'
    have hbN : b < N0 := by omega
    have nxt : ∀ h' N', sd_W h0 h' F S Y N0 (b + 1) N' → sf_E 1760053317598829907893497885994138883981277547020837976232794692084726797597973998101521147216527360 g0 h' → mx_T E (mx_fn true) (d + 3) 0 0 278 9 [(0, .inr (.inl 105)), (1, .inl (.int (nI F))), (2, .inl (.int (nI S))), (3, .inl (.int (nI Y))), (4, .inl (.int (nI N0))), (5, .inl (.int (nI b + 1)))] [] h' Q := fun h' N' w e => by
      rw [nI_1]
      exact sd278_9 hF hS hcF hY hY6 hN hQ m (b + 1) N' (by omega) hbN w e
    refine ⟨vp_in_nI (by omega) (by decide +kernel), ?_⟩
    rw [nI_clamp (by omega)]
    obtain ⟨w1, w2, w3, w4, w5, w6, w7⟩ := id hW
    have c15 := sd_C_15 (sd_P h0 F (b : Int))
    have hl := sf_rd (r := 329) (lo := 0) (hi := 468) w1 (.inl 117) b rfl rfl
    rw [sd_ur (by omega)] at hl
    obtain ⟨L, hL, eL⟩ := sf_of (b := 468) hl
    rw [eL]
    refine ⟨fun _ => nxt h N (sd_Wn hW) hE, fun g2 => ?_⟩
    have hL1 : 1 ≤ L := by
      by_cases z : L = 0
      · subst z
        exact absurd (by decide +kernel) g2
      · omega
    -- the body lies on a piece
    have hbu : (b : Int) < sf_jf (sd_u h S) (.inl 105) 12 := by
      rw [sf_bo0, sd_ur (by omega), w3, nI_toInt (by omega)]
      omega
    obtain ⟨s, x, y, q1, q2, q3, q4, q5, q6⟩ := w1.2.2.2.2.2.2.2 b hbu (by rw [sf_bo1, sd_ur (by omega), eL, nI_toInt (by omega)]; omega)
    rw [sf_bo1, sd_ur (by omega), eL, nI_toInt (by omega)] at q1
    rw [sf_jfr (r := 225) rfl rfl, sd_us, nI_toInt (by omega)] at q2
    rw [sf_jfr (r := 318) rfl rfl, sd_ur (by omega)] at q3 q4
    rw [sf_r1, sd_ur (by omega)] at q6
    have c6 := (sf_rd (r := 318) (lo := 0) (hi := 6) w1 (.inl 106) s rfl rfl).2
    rw [sd_ur (by omega)] at c6
    have hx6 : x < 6 := by omega
    have hy6 : y < 6 := by omega
    obtain ⟨p, hp, rfl⟩ : ∃ p, p = 36 * s + 6 * x + y ∧ L = p + 1 := ⟨L - 1, by omega, by omega⟩
    have e0 : nI (p + 1) - 1 = nI p := by rw [← nI_1, Int32.add_sub_cancel]
    rw [e0]
    have e1 : nI p / 36 = nI s := by
      rw [show (36 : Int32) = nI 36 from rfl, nI_divn (by omega) (by decide +kernel) (by decide +kernel)]
      congr 1
      omega
    have e2 : nI p / 6 = nI (6 * s + x) := by
      rw [show (6 : Int32) = nI 6 from rfl, nI_divn (by omega) (by decide +kernel) (by decide +kernel)]
      congr 1
      omega
    have e3 : nI (6 * s + x) - nI (6 * s + x) / 6 * 6 = nI x := by
      rw [show (6 : Int32) = nI 6 from rfl, nI_divn (by omega) (by decide +kernel) (by decide +kernel), nI_mul, nI_subn (by omega)]
      congr 1
      omega
    have e4 : nI p - nI (6 * s + x) * 6 = nI y := by
      rw [show (6 : Int32) = nI 6 from rfl, nI_mul, nI_subn (by omega)]
      congr 1
      omega
    rw [e1, e2, e3, e4]
    refine ⟨by decide +kernel, fun g3 => ?_, fun _ => nxt h N (sd_Wn hW) hE⟩
    have hsF : s = F := nI_ne (by omega) (by omega) g3
    subst hsF
    have vp : vp_in (nI p) 468 := vp_in_nI (by omega) (by decide +kernel)
    refine ⟨by decide +kernel, by decide +kernel, by decide +kernel, vp, vp, ?_⟩
    rw [nI_add, nI_add, nI_clamp (by omega), w3]
    rw [w6.1 s, hcF, nI_toInt (by omega)] at q3 q4
    have hA : x + Y < 6 := by omega
    have hB : y + Y < 6 := by omega
    have hAB : x + Y ≠ y + Y := by omega
    -- the piece is stiff
    have st1 : 1 ≤ (h.2.1 (.inl 111) p).toInt := by
      have k3 := w1.2.2.2.2.2.1 p (by rw [sf_jfr (r := 225) rfl rfl, sd_us, nI_toInt (by omega)]; omega) (by rw [sf_r1, sd_ur (by omega), hp, q6]; omega)
      rw [sf_r2, sd_ur (by omega)] at k3
      exact k3
    have ps := sf_rd (r := 323) (lo := 0) (hi := 9) w1 (.inl 111) p rfl rfl
    have pc := sf_rd (r := 324) (lo := 0) (hi := 9) w1 (.inl 112) p rfl rfl
    rw [sd_ur (by omega)] at ps pc
    have bow : ∀ i, i < 6 → ∀ j, j < 6 → (h.2.1 (.inl 113) (36 * s + 6 * i + j)).toInt = (h.2.1 (.inl 113) (36 * s + 6 * j + i)).toInt := fun i hi j hj => by
      have k4 := w1.2.2.2.2.2.2.1 s i j (by rw [sf_jfr (r := 225) rfl rfl, sd_us, nI_toInt (by omega)]; omega) hi hj
      rw [sf_r1, sf_r1, sd_ur (by omega), sd_ur (by omega)] at k4
      exact k4
    -- a body that lies at x', y' of this shape is the one that its piece names
    have own : ∀ b', b' < b → ∀ x' y', x' < 6 → y' < 6 → (h.2.1 (.inl 117) b').toInt = ((36 * s + 6 * x' + y' : Nat) : Int) + 1 → (h.2.1 (.inl 113) (36 * s + 6 * x' + y')).toInt = (b' : Int) + 1 := fun b' hb' x' y' hx' hy' e => by
      obtain ⟨s2, x2, y2, r1, r2, r3, r4, r5, r6⟩ := w1.2.2.2.2.2.2.2 b' (by rw [sf_bo0, sd_ur (by omega), w3, nI_toInt (by omega)]; omega) (by rw [sf_bo1, sd_ur (by omega), e]; omega)
      rw [sf_bo1, sd_ur (by omega), e] at r1
      rw [sf_jfr (r := 318) rfl rfl, sd_ur (by omega)] at r3 r4
      have c7 := (sf_rd (r := 318) (lo := 0) (hi := 6) w1 (.inl 106) s2 rfl rfl).2
      rw [sd_ur (by omega)] at c7
      rw [sf_r1, sd_ur (by omega)] at r6
      obtain ⟨d1, d2, d3⟩ := sd_dig hx' hy' (show x2 < 6 by omega) (show y2 < 6 by omega) (show 36 * s + 6 * x' + y' = 36 * s2 + 6 * x2 + y2 by omega)
      rw [d1, d2, d3]
      exact r6
    have free : ∀ z : Nat, z < N → (h.2.1 (.inl 117) z).toInt ≠ ((36 * S + 6 * (x + Y) + (y + Y) : Nat) : Int) + 1 ∧ (h.2.1 (.inl 117) z).toInt ≠ ((36 * S + 6 * (y + Y) + (x + Y) : Nat) : Int) + 1 := fun z hz => by
      refine ⟨fun e => ?_, fun e => ?_⟩
      · rcases w7 z hz (x + Y) (y + Y) hA hB e with q | ⟨b', hb', x', y', hx', hy', e', ea, ec⟩
        · omega
        · have := own b' hb' x' y' hx' hy' e'
          rw [show x' = x by omega, show y' = y by omega, q6] at this
          omega
      · rcases w7 z hz (y + Y) (x + Y) hB hA e with q | ⟨b', hb', x', y', hx', hy', e', ea, ec⟩
        · omega
        · have := own b' hb' x' y' hx' hy' e'
          rw [show x' = y by omega, show y' = x by omega, bow y hy6 x hx6, q6] at this
          omega
    -- room for one more
    have more : sd_C sd_CL (sd_P h0 s (b : Int)) + 1 ≤ sd_C sd_CL (sd_P h0 s ((b + 1 : Nat) : Int)) := by
      obtain ⟨c, hc, hcc⟩ := sd_pair hx6 hy6 q5
      have ec : (h0.2.1 (.inl 113) (36 * s + c)).toInt = (b : Int) + 1 := by
        have lt : c < 36 := by
          have A : ∀ y ∈ sd_CL, y < 36 := by decide +kernel
          exact A c hc
        rw [← w6.2 (36 * s + c) (by omega)]
        rcases hcc with e | e
        · rw [e, ← Nat.add_assoc]
          exact q6
        · rw [e, ← Nat.add_assoc, bow y hy6 x hx6]
          exact q6
      refine sd_C_lt2 (fun z _ q => sd_P_mono (by omega) z q) hc (fun q => ?_) ?_
      · unfold sd_P at q
        simp only [Bool.and_eq_true, decide_eq_true_eq] at q
        omega
      · unfold sd_P
        simp only [Bool.and_eq_true, decide_eq_true_eq]
        omega
    have top : sd_C sd_CL (sd_P h0 s ((b + 1 : Nat) : Int)) ≤ sd_C sd_CL (sd_P h0 s 1000) := sd_C_mono (fun z _ q => sd_P_mono (by omega) z q)
    have hN200 : N + 1 ≤ 199 := by omega
    -- the piece is set
    refine sx181 (show S ≤ 12 by omega) (show x + Y ≤ 5 by omega) (show y + Y ≤ 5 by omega) (hx_n ?_)
    rw [nI_1]
    generalize hg : sx_p (sx_p h (36 * S + 6 * (x + Y) + (y + Y)) (nI (N + 1)) (h.2.1 (.inl 111) p) (h.2.1 (.inl 112) p)) (36 * S + 6 * (y + Y) + (x + Y)) (nI (N + 1)) (h.2.1 (.inl 111) p) (h.2.1 (.inl 112) p) = h1
    have U1 : sf_I (sd_u h1 S) := by
      subst hg
      rw [sd_up, sd_up]
      exact sd_set w1 (by omega) hA hB (sf_nI (by omega) (by decide +kernel)) ⟨st1, ps.2⟩ pc (fun z hz => by
        rw [sd_ur (by omega), w3, nI_toInt (by omega)] at hz
        rw [sd_ur (by omega)]
        exact free z (by omega))
    have f1 : ∀ n i, n ≠ 111 ∧ n ≠ 112 ∧ n ≠ 113 → h1.2.1 (.inl n) i = h.2.1 (.inl n) i := fun n i hn => by
      subst hg
      unfold sx_p
      rw [sf_ro (fun c => by have := Sum.inl.inj c; omega), sf_ro (fun c => by have := Sum.inl.inj c; omega), sf_ro (fun c => by have := Sum.inl.inj c; omega), sf_ro (fun c => by have := Sum.inl.inj c; omega), sf_ro (fun c => by have := Sum.inl.inj c; omega), sf_ro (fun c => by have := Sum.inl.inj c; omega)]
    have b1 : h1.2.1 (.inl 105) 12 = nI N := (f1 _ _ (by decide +kernel)).trans w3
    have s1 : 1 ≤ (h1.2.1 (.inl 111) (36 * S + 6 * (x + Y) + (y + Y))).toInt := by
      subst hg
      rw [sd_sr, if_pos (Or.inl rfl)]
      exact st1
    refine sx193 (show S ≤ 12 by omega) hA hB b1 (by omega) (hx_n (nxt _ (N + 1) ?_ ?_))
    · have cS : ∀ q : Nat, q < 6 → q < Y + cF → (q : Int) < (h1.2.1 (.inl 106) S).toInt := fun q _ hq => by
        rw [f1 106 S (by decide +kernel), w6.1 S]
        omega
      refine ⟨sd_bear U1 hS hA hB hAB (cS _ hA (by omega)) (cS _ hB (by omega)) b1 (by omega) s1 (fun z hz => by rw [f1 117 z (by simp)]; exact free z hz), (f1 105 1 (by decide +kernel)).trans w2, rfl, by omega, by omega, ⟨fun q => (f1 106 q (by simp)).trans (w6.1 q), fun q hq => ?_⟩, fun z hz a c ha hc e => ?_⟩
      · rw [sx_b113, if_neg (by omega)]
        subst hg
        rw [sd_pr (S := S), if_neg (by omega)]
        exact w6.2 q hq
      · rw [sx_b117] at e
        by_cases cz : z = N
        · rw [if_pos cz, nI_toInt (by omega)] at e
          obtain ⟨-, d2, d3⟩ := sd_dig (s := S) (S := S) ha hc hA hB (by omega)
          refine Or.inr ⟨b, by omega, x, y, hx6, hy6, ?_, d2, d3⟩
          rw [sx_b117, if_neg (by omega), f1 117 b (by simp), eL, nI_toInt (by omega)]
          omega
        · rw [if_neg cz, f1 117 z (by simp)] at e
          rcases w7 z (by omega) a c ha hc e with q | ⟨b', hb', x', y', hx', hy', e', ea, ec⟩
          · exact Or.inl q
          · refine Or.inr ⟨b', by omega, x', y', hx', hy', ?_, ea, ec⟩
            rw [sx_b117, if_neg (by omega), f1 117 b' (by simp)]
            exact e'
    · refine sx_bE (by decide +kernel) (by decide +kernel) (by decide +kernel) (by decide +kernel) (by decide +kernel) (by decide +kernel) ?_
      subst hg
      exact sf_Ep (by decide +kernel) (by decide +kernel) (by decide +kernel) (sf_Ep (by decide +kernel) (by decide +kernel) (by decide +kernel) hE)
/-! ===== reference: pieces counted; corners copied ===== -/
def sd_M (h : mx_H) (s n : Int32) (K : Int) : Prop := ((sd_C sd_CL (fun c => decide ((c : Int) < K) && sd_P h s.toNatClampNeg 1000 c) : Nat) : Int) ≤ n.toInt
theorem sd_Mle {h : mx_H} {s n n' : Int32} {K K' : Int} (q : sd_M h s n K) (hn : n.toInt ≤ n'.toInt) (hK : ∀ c ∈ sd_CL, (c : Int) < K' → (c : Int) < K) : sd_M h s n' K' := by
  unfold sd_M at *
  have := sd_C_mono (l := sd_CL) (g := fun c => decide ((c : Int) < K') && sd_P h s.toNatClampNeg 1000 c) (g' := fun c => decide ((c : Int) < K) && sd_P h s.toNatClampNeg 1000 c) (fun c hc e => by
    simp only [Bool.and_eq_true, decide_eq_true_eq] at *
    exact ⟨hK c hc e.1, e.2⟩)
  omega
theorem sd_M0 {h : mx_H} {s n : Int32} {K : Int} (hK : K ≤ 0) (hn : 0 ≤ n.toInt) : sd_M h s n K := by
  unfold sd_M
  have := sd_C_mono (l := sd_CL) (g := fun c => decide ((c : Int) < K) && sd_P h s.toNatClampNeg 1000 c) (g' := fun _ => false) (fun c hc e => by
    simp only [Bool.and_eq_true, decide_eq_true_eq] at e
    omega)
  rw [show sd_C sd_CL (fun _ => false) = 0 from rfl] at this
  omega
theorem sd_Ma {h : mx_H} {s n n' a : Int32} {K' : Int} (ha : 0 ≤ a.toInt) (ha5 : a.toInt ≤ 5) (q : sd_M h s n (6 * a.toInt)) (hn : n.toInt ≤ n'.toInt) (hK : K' ≤ 7 * a.toInt + 1) : sd_M h s n' K' := by
  refine sd_Mle q hn (fun c hc e => ?_)
  have A : ∀ b : Nat, b < 6 → ∀ c ∈ sd_CL, c < 7 * b + 1 → c < 6 * b := by decide +kernel
  have e1 := sf_cl ha
  have := A a.toNatClampNeg (by omega) c hc (by omega)
  omega
theorem sd_M1 {h : mx_H} {s n n' : Int32} {K K' : Int} (q : sd_M h s n K) (hn : n'.toInt = n.toInt + 1) (h0 : 0 ≤ K) (hK : K' ≤ K + 1) : sd_M h s n' K' := by
  unfold sd_M at *
  have := sd_C_add1 (l := sd_CL) (c := K.toNat) (g := fun c => decide ((c : Int) < K) && sd_P h s.toNatClampNeg 1000 c) (g' := fun c => decide ((c : Int) < K') && sd_P h s.toNatClampNeg 1000 c) sd_CLn (fun c hc e1 e => by
    simp only [Bool.and_eq_true, decide_eq_true_eq] at *
    exact ⟨by omega, e.2⟩)
  omega
theorem sd_M2 {h : mx_H} {s n n' x : Int32} {K K' : Int} (q : sd_M h s n K) (hn : n.toInt ≤ n'.toInt) (hK : K' ≤ K + 1) (h0 : 0 ≤ K) (hs : 0 ≤ s.toInt) (hx : x.toInt = 36 * s.toInt + K) (hv : (h.2.1 (.inl 113) x.toNatClampNeg).toInt ≤ 0) : sd_M h s n' K' := by
  unfold sd_M at *
  have e1 := sf_cl hs
  have e2 := sf_cl (x := x) (by omega)
  have := sd_C_mono (l := sd_CL) (g := fun c => decide ((c : Int) < K') && sd_P h s.toNatClampNeg 1000 c) (g' := fun c => decide ((c : Int) < K) && sd_P h s.toNatClampNeg 1000 c) (fun c hc e => by
    simp only [Bool.and_eq_true, decide_eq_true_eq] at *
    refine ⟨?_, e.2⟩
    by_cases c2 : (c : Int) = K
    · exfalso
      have e3 := e.2
      unfold sd_P at e3
      simp only [Bool.and_eq_true, decide_eq_true_eq] at e3
      rw [show 36 * s.toNatClampNeg + c = x.toNatClampNeg by omega] at e3
      omega
    · omega)
  omega
theorem sd_Mf {h : mx_H} {s n : Int32} {K : Int} (q : sd_M h s n K) (hK : 30 ≤ K) : ((sd_C sd_CL (sd_P h s.toNatClampNeg 1000) : Nat) : Int) ≤ n.toInt := by
  unfold sd_M at q
  have := sd_C_mono (l := sd_CL) (g := sd_P h s.toNatClampNeg 1000) (g' := fun c => decide ((c : Int) < K) && sd_P h s.toNatClampNeg 1000 c) (fun c hc e => by
    simp only [Bool.and_eq_true, decide_eq_true_eq]
    have A : ∀ y ∈ sd_CL, y < 30 := by decide +kernel
    have := A c hc
    exact ⟨by omega, e⟩)
  omega
theorem sd_Ne {m : Nat} {h h' : mx_H} {S : Nat} {K : Int} (hE : sf_E m h h') (h1 : m.testBit 325 = false) (q : ((sd_C sd_CL (sd_P h S 1000) : Nat) : Int) ≤ K) : ((sd_C sd_CL (sd_P h' S 1000) : Nat) : Int) ≤ K := by
  have e : sd_P h' S 1000 = sd_P h S 1000 := by
    funext c
    unfold sd_P
    rw [hE.1 (.inl 113) _ h1]
  rw [e]
  exact q
def sd_H (h : mx_H) (s : Int32) (K : Int) : Prop := ∀ c : Nat, (c : Int) < K → 1 ≤ (h.2.1 (.inl 107) (6 * s.toNatClampNeg + c)).toInt
theorem sd_Hu {h : mx_H} {s : Int32} {K : Int} {a : mx_A} {i r : Nat} {v : Int32} (e : sf_rg a i = r) (hr : (r != 319) = true) (q : sd_H h s K) : sd_H (mx_uI h a i v) s K := by
  subst e
  rw [bne_iff_ne] at hr
  intro c hc
  rw [show (mx_uI h a i v).2.1 (.inl 107) (6 * s.toNatClampNeg + c) = h.2.1 (.inl 107) (6 * s.toNatClampNeg + c) from if_neg (fun c => hr (by rw [← c.1]; rfl))]
  exact q c hc
theorem sd_Hs {h : mx_H} {s x v : Int32} {K K' : Int} (q : sd_H h s K) (hs : 0 ≤ s.toInt) (h0 : 0 ≤ K) (hx : x.toInt = 6 * s.toInt + K) (hv : 1 ≤ v.toInt) (hK : K' ≤ K + 1) : sd_H (mx_uI h (.inl 107) x.toNatClampNeg v) s K' := by
  intro c hc
  have e1 := sf_cl hs
  have e2 := sf_cl (x := x) (by omega)
  by_cases e : 6 * s.toNatClampNeg + c = x.toNatClampNeg
  · rw [e, sf_rs]
    exact hv
  · rw [sf_roi e]
    exact q c (by omega)
theorem sd_Hc {h : mx_H} {s : Int32} {K K' : Int} (q : sd_H h s K) (hK : K' ≤ K) : sd_H h s K' := fun c hc => q c (by omega)
