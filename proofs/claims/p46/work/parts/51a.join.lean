/-! ===== reference: join, cut where the shape is made (byte 117) ===== -/
set_option maxRecDepth 100000 in
theorem sj280_0 {E : mx_Ev} {d : Nat} {h : mx_H} {Q : Option mx_V → mx_H → Prop} {a1 : Int32} {a2 : Int32} {a3 : Int32} {a4 : Int32}
    (H : mx_C E (mx_fn true) d 177 [.inr (.inl 105), .inl (.int a1)] h (fun v1 h2 => ∀ x3, v1 = some (.inl (.int x3)) → (((x3 = 0) → (Q (some (.inl (.int (-1)))) h2)) ∧ (¬ (x3 = 0) → (mx_C E (mx_fn true) d 177 [.inr (.inl 105), .inl (.int a2)] h2 (fun v4 h5 => ∀ x6, v4 = some (.inl (.int x6)) → (((x6 = 0) → (Q (some (.inl (.int (-1)))) h5)) ∧ (¬ (x6 = 0) → (((a3 < 0) → (Q (some (.inl (.int (-1)))) h5)) ∧ (¬ (a3 < 0) → ((¬ (10 : Int32) = 0) ∧ (mx_C E (mx_fn true) d 178 [.inr (.inl 105), .inl (.int a1), .inl (.int (a3 / 10))] h5 (fun v7 h8 => ∀ x9, v7 = some (.inl (.int x9)) → (((x9 = 0) → (Q (some (.inl (.int (-1)))) h8)) ∧ (¬ (x9 = 0) → ((¬ (10 : Int32) = 0) ∧ (mx_C E (mx_fn true) d 178 [.inr (.inl 105), .inl (.int a2), .inl (.int (a3 - a3 / 10 * 10))] h8 (fun v10 h11 => ∀ x12, v10 = some (.inl (.int x12)) → (((x12 = 0) → (Q (some (.inl (.int (-1)))) h11)) ∧ (¬ (x12 = 0) → (mx_C E (mx_fn true) d 173 [.inl (.int a4), .inl (.int 1), .inl (.int 9)] h11 (fun v13 h14 => ∀ x15, v13 = some (.inl (.int x15)) → (((x15 = 0) → (Q (some (.inl (.int (-1)))) h14)) ∧ (¬ (x15 = 0) → ((vp_in a1 13) ∧ ((vp_in a2 13) ∧ (((((h14.2.1 (.inl 106) (Int32.toNatClampNeg a1)) + (h14.2.1 (.inl 106) (Int32.toNatClampNeg a2))) ≤ 6) → ((((h14.2.1 (.inl 105) 1) = 12) → (Q (some (.inl (.int (-3)))) h14)) ∧ (¬ ((h14.2.1 (.inl 105) 1) = 12) → (mx_C E (mx_fn true) d 183 [.inr (.inl 105), .inl (.int a1)] h14 (fun v16 h17 => ∀ x18, v16 = some (.inl (.int x18)) → (mx_C E (mx_fn true) d 183 [.inr (.inl 105), .inl (.int a2)] h17 (fun v19 h20 => ∀ x21, v19 = some (.inl (.int x21)) → (((((((h14.2.1 (.inl 105) 12) + x18) + x21) + 1) ≤ 200) → (mx_T E (mx_fn true) (d + 1) 0 0 280 117 [(0, .inr (.inl 105)), (1, .inl (.int a1)), (2, .inl (.int a2)), (3, .inl (.int a3)), (4, .inl (.int a4)), (5, .inl (.int (h20.2.1 (.inl 105) 1)))] [] h20 Q)) ∧ (¬ (((((h14.2.1 (.inl 105) 12) + x18) + x21) + 1) ≤ 200) → (Q (some (.inl (.int (-3)))) h20)))))))))) ∧ (¬ (((h14.2.1 (.inl 106) (Int32.toNatClampNeg a1)) + (h14.2.1 (.inl 106) (Int32.toNatClampNeg a2))) ≤ 6) → (Q (some (.inl (.int (-1)))) h14))))))))))))))))))))))))))))) :
    mx_T E (mx_fn true) (d + 1) 0 0 280 0 [(0, .inr (.inl 105)), (1, .inl (.int a1)), (2, .inl (.int a2)), (3, .inl (.int a3)), (4, .inl (.int a4))] [] h Q := mx_wp_sound (cuts := [(117, [0, 1, 2, 3, 4, 5])]) mx_ok280 158 H mx_tbe280
set_option maxRecDepth 100000 in
theorem sj280_117 {E : mx_Ev} {d : Nat} {h : mx_H} {Q : Option mx_V → mx_H → Prop} {a1 : Int32} {a2 : Int32} {a3 : Int32} {a4 : Int32} {a5 : Int32}
    (H : mx_C E (mx_fn true) d 182 [.inr (.inl 105), .inl (.int a5)] h (fun v1 h2 => v1 = none → ((vp_in a1 13) ∧ ((vp_in a2 13) ∧ ((vp_in a5 13) ∧ (mx_C E (mx_fn true) d 279 [.inr (.inl 105), .inl (.int a1), .inl (.int a5), .inl (.int 0)] (mx_uI h2 (.inl 106) (Int32.toNatClampNeg a5) ((h2.2.1 (.inl 106) (Int32.toNatClampNeg a1)) + (h2.2.1 (.inl 106) (Int32.toNatClampNeg a2)))) (fun v3 h4 => v3 = none → ((vp_in a1 13) ∧ (mx_C E (mx_fn true) d 279 [.inr (.inl 105), .inl (.int a2), .inl (.int a5), .inl (.int (h4.2.1 (.inl 106) (Int32.toNatClampNeg a1)))] h4 (fun v5 h6 => v5 = none → (mx_C E (mx_fn true) d 278 [.inr (.inl 105), .inl (.int a1), .inl (.int a5), .inl (.int 0)] h6 (fun v7 h8 => v7 = none → ((vp_in a1 13) ∧ (mx_C E (mx_fn true) d 278 [.inr (.inl 105), .inl (.int a2), .inl (.int a5), .inl (.int (h8.2.1 (.inl 106) (Int32.toNatClampNeg a1)))] h8 (fun v9 h10 => v9 = none → ((¬ (10 : Int32) = 0) ∧ ((vp_in a1 13) ∧ ((¬ (10 : Int32) = 0) ∧ (mx_C E (mx_fn true) d 181 [.inr (.inl 105), .inl (.int a5), .inl (.int (a3 / 10)), .inl (.int ((h10.2.1 (.inl 106) (Int32.toNatClampNeg a1)) + (a3 - a3 / 10 * 10))), .inl (.int (h10.2.1 (.inl 105) 12)), .inl (.int a4), .inl (.int 0)] h10 (fun v11 h12 => v11 = none → ((¬ (10 : Int32) = 0) ∧ ((vp_in a1 13) ∧ ((¬ (10 : Int32) = 0) ∧ (mx_C E (mx_fn true) d 193 [.inr (.inl 105), .inl (.int a5), .inl (.int (a3 / 10)), .inl (.int ((h12.2.1 (.inl 106) (Int32.toNatClampNeg a1)) + (a3 - a3 / 10 * 10)))] h12 (fun v13 h14 => v13 = none → ((vp_in a5 12) ∧ ((vp_in a5 12) ∧ (Q (some (.inl (.int a5))) (mx_uI (mx_uI (mx_uI h14 (.inl 114) (Int32.toNatClampNeg a5) a1) (.inl 115) (Int32.toNatClampNeg a5) a2) (.inl 105) 1 (((mx_uI (mx_uI h14 (.inl 114) (Int32.toNatClampNeg a5) a1) (.inl 115) (Int32.toNatClampNeg a5) a2).2.1 (.inl 105) 1) + 1)))))))))))))))))))))))))))))) :
    mx_T E (mx_fn true) (d + 1) 0 0 280 117 [(0, .inr (.inl 105)), (1, .inl (.int a1)), (2, .inl (.int a2)), (3, .inl (.int a3)), (4, .inl (.int a4)), (5, .inl (.int a5))] [] h Q := mx_wp_sound (cuts := [(117, [0, 1, 2, 3, 4, 5])]) mx_ok280 158 H mx_tbe280
theorem sd278 {E : mx_Ev} {d : Nat} {h : mx_H} {Q : Option mx_V → mx_H → Prop} {F S Y cF N0 : Nat} (hU : sf_I (sd_u h S)) (hs : h.2.1 (.inl 105) 1 = nI S) (hF : F < S) (hS : S ≤ 11) (hcF : h.2.1 (.inl 106) F = nI cF) (hY : ((Y + cF : Nat) : Int) ≤ (h.2.1 (.inl 106) S).toInt) (hY6 : Y + cF ≤ 6) (hb : h.2.1 (.inl 105) 12 = nI N0) (hN : N0 + sd_C sd_CL (sd_P h F 1000) ≤ 199)
    (hf : ∀ x, x < N0 → ∀ a c, a < 6 → c < 6 → (h.2.1 (.inl 117) x).toInt = ((36 * S + 6 * a + c : Nat) : Int) + 1 → a < Y ∧ c < Y) (hQ : ∀ h' N, sd_W h h' F S Y N0 N0 N → sf_E 1760053317598829907893497885994138883981277547020837976232794692084726797597973998101521147216527360 h h' → Q none h') :
    mx_C E (mx_fn true) (d + 3) 278 [.inr (.inl 105), .inl (.int (nI F)), .inl (.int (nI S)), .inl (.int (nI Y))] h Q := by
  refine sg278_0 ?_
  rw [hb]
  exact sd278_9 hF hS hcF hY hY6 hN hQ _ 0 N0 (Nat.lt_succ_self _) (Nat.zero_le _) ⟨hU, hs, hb, Nat.le_refl _, Nat.le_add_right _ _, ⟨fun _ => rfl, fun _ _ => rfl⟩, fun x hx a c ha hc e => Or.inl (hf x hx a c ha hc e)⟩ (sf_E0 _ _)
/-- a body lies between corners -/
theorem sd_onc {h : mx_H} {S N F b x y : Nat} (U : sf_I (sd_u h S)) (hb : h.2.1 (.inl 105) 12 = nI N) (hN : N ≤ 200) (hbN : b < N) (hx : x < 6) (hy : y < 6) (e : (h.2.1 (.inl 117) b).toInt = ((36 * F + 6 * x + y : Nat) : Int) + 1) : (x : Int) < (h.2.1 (.inl 106) F).toInt ∧ (y : Int) < (h.2.1 (.inl 106) F).toInt := by
  obtain ⟨s2, x2, y2, r1, r2, r3, r4, r5, r6⟩ := U.2.2.2.2.2.2.2 b (by rw [sf_bo0, sd_ur (by omega), hb, nI_toInt (by omega)]; omega) (by rw [sf_bo1, sd_ur (by omega), e]; omega)
  rw [sf_bo1, sd_ur (by omega), e] at r1
  rw [sf_jfr (r := 318) rfl rfl, sd_ur (by omega)] at r3 r4
  have c7 := (sf_rd (r := 318) (lo := 0) (hi := 6) U (.inl 106) s2 rfl rfl).2
  rw [sd_ur (by omega)] at c7
  obtain ⟨d1, d2, d3⟩ := sd_dig hx hy (show x2 < 6 by omega) (show y2 < 6 by omega) (show 36 * F + 6 * x + y = 36 * s2 + 6 * x2 + y2 by omega)
  rw [d1, d2, d3]
  exact ⟨r3, r4⟩
theorem sf280_t {E : mx_Ev} {d : Nat} {h0 h : mx_H} {Q : Option mx_V → mx_H → Prop} {F1 F2 S C1 C2 A B N : Nat} {a3 a4 : Int32} (hQ : ∀ x h', sf_I h' → sf_E 2186716728024031696851903471801560838766502076641168701059890292508562462111502029113570031302606848 h0 h' → sf_iv (-3) 11 x → Q (some (.inl (.int x))) h') (hI : sf_I h) (hE : sf_E 2186716728024031696851903471801560838766502076641168701059890292508562462111502029113570031302606848 h0 h)
    (hs : h.2.1 (.inl 105) 1 = nI S) (hS : S ≤ 11) (h1 : F1 < S) (h2 : F2 < S) (c1 : h.2.1 (.inl 106) F1 = nI C1) (c2 : h.2.1 (.inl 106) F2 = nI C2) (c6 : C1 + C2 ≤ 6) (eA : a3 / 10 = nI A) (eB : a3 - a3 / 10 * 10 = nI B) (hA : A < C1) (hB : B < C2) (pv : sf_iv 1 9 a4) (hb : h.2.1 (.inl 105) 12 = nI N) (hN : N + sd_C sd_CL (sd_P h F1 1000) + sd_C sd_CL (sd_P h F2 1000) + 1 ≤ 200) :
    mx_T E (mx_fn true) (d + 4) 0 0 280 117 [(0, .inr (.inl 105)), (1, .inl (.int (nI F1))), (2, .inl (.int (nI F2))), (3, .inl (.int a3)), (4, .inl (.int a4)), (5, .inl (.int (nI S)))] [] h Q := by
  have kF1 : (nI F1).toNatClampNeg = F1 := nI_clamp (by omega)
  have kF2 : (nI F2).toNatClampNeg = F2 := nI_clamp (by omega)
  have kS : (nI S).toNatClampNeg = S := nI_clamp (by omega)
  have v1 : vp_in (nI F1) 13 := vp_in_nI (by omega) (by decide +kernel)
  have v2 : vp_in (nI F2) 13 := vp_in_nI (by omega) (by decide +kernel)
  have v5 : vp_in (nI S) 13 := vp_in_nI (by omega) (by decide +kernel)
  have iF1 : sf_iv 0 11 (nI F1) := sf_nI (by omega) (by decide +kernel)
  have iF2 : sf_iv 0 11 (nI F2) := sf_nI (by omega) (by decide +kernel)
  have iS : sf_iv 1 11 (nI S) := ⟨by rw [nI_toInt (by omega)]; omega, by rw [nI_toInt (by omega)]; omega⟩
  refine sj280_117 (sf182q (a1 := nI S) ⟨by have := iS.1; omega, by have := iS.2; omega⟩ (by rw [hs]; exact Int.le_refl _) hI (fun g1 I1 E1 z1 f1 => hx_n ⟨v1, v2, v5, ?_⟩))
  have f11 := f1.1
  have f12 := f1.2
  have z12 := z1.2
  rw [kS] at f11 f12 z12
  have s1 : g1.2.1 (.inl 105) 1 = nI S := (E1.1 (.inl 105) 1 (by decide +kernel)).trans hs
  have b1 : g1.2.1 (.inl 105) 12 = nI N := (E1.1 (.inl 105) 12 (by decide +kernel)).trans hb
  have c11 : g1.2.1 (.inl 106) F1 = nI C1 := (f12 F1 h1).trans c1
  have c12 : g1.2.1 (.inl 106) F2 = nI C2 := (f12 F2 h2).trans c2
  rw [kF1, kF2, kS, c11, c12, nI_add]
  generalize hg2 : mx_uI g1 (.inl 106) S (nI (C1 + C2)) = g2
  have I2 : sf_I g2 := by
    subst hg2
    exact sf_uJ (r := 318) (lo := 0) (hi := 6) I1 rfl (sf_nI (by omega) (by decide +kernel)) (by decide +kernel) (sf_Kb I1 (Or.inl ⟨rfl, by rw [s1, nI_toInt (by omega)]; omega⟩))
  have e2 : ∀ n i, ¬ (n = 106 ∧ i = S) → g2.2.1 (.inl n) i = g1.2.1 (.inl n) i := fun n i q => by
    subst hg2
    exact if_neg (fun c => q ⟨Sum.inl.inj c.1, c.2⟩)
  have s2 : g2.2.1 (.inl 105) 1 = nI S := (e2 _ _ (by omega)).trans s1
  have c21 : g2.2.1 (.inl 106) F1 = nI C1 := (e2 _ _ (by omega)).trans c11
  have c22 : g2.2.1 (.inl 106) F2 = nI C2 := (e2 _ _ (by omega)).trans c12
  have c2S : g2.2.1 (.inl 106) S = nI (C1 + C2) := by
    subst hg2
    exact sf_rs
  have E2 : sf_E 2186716728024031696851903471801560838766502076641168701059890292508562462111502029113570031302606848 h0 g2 := by
    subst hg2
    exact sf_Eu (r := 318) rfl (by decide +kernel) (sf_Et (by decide +kernel) hE E1)
  refine sf279 (a1 := nI F1) (a2 := nI S) (a3 := 0) iF1 iS (iv_w (c := 0) (d := 6) ivk_0 (by decide +kernel)) ⟨by rw [s2, nI_toInt (by omega), nI_toInt (by omega)]; omega, by rw [s2]⟩ (by rw [kF1, c21, nI_toInt (by omega)]; show (0 : Int) + C1 ≤ 6; omega) (fun c hc => by have hc' : (c : Int) < 0 := hc; omega) I2 (fun g3 I3 E3 H3 => hx_n ⟨v1, ?_⟩)
  have s3 : g3.2.1 (.inl 105) 1 = nI S := (E3.1 (.inl 105) 1 (by decide +kernel)).trans s2
  have q3 : ∀ i, g3.2.1 (.inl 106) i = g2.2.1 (.inl 106) i := fun i => E3.1 (.inl 106) i (show Nat.testBit _ 318 = false by decide +kernel)
  rw [kF1, q3, c21] at H3
  rw [q3, c21]
  have H3' : sd_H g3 (nI S) ((nI C1 : Int32).toInt) := sd_Hc H3 (by show (nI C1).toInt ≤ (0 : Int32).toInt + (nI C1).toInt; rw [show (0 : Int32).toInt = 0 from rfl]; omega)
  refine sf279 (a1 := nI F2) (a2 := nI S) (a3 := nI C1) iF2 iS (sf_nI (by omega) (by decide +kernel)) ⟨by rw [s3, nI_toInt (by omega), nI_toInt (by omega)]; omega, by rw [s3]⟩ (by rw [kF2, q3, c22, nI_toInt (by omega), nI_toInt (by omega)]; omega) H3' I3 (fun g4 I4 E4 H4 => hx_n ?_)
  have s4 : g4.2.1 (.inl 105) 1 = nI S := (E4.1 (.inl 105) 1 (by decide +kernel)).trans s3
  have q4 : ∀ i, g4.2.1 (.inl 106) i = g2.2.1 (.inl 106) i := fun i => (E4.1 (.inl 106) i (show Nat.testBit _ 318 = false by decide +kernel)).trans (q3 i)
  have p4 : ∀ i, g4.2.1 (.inl 113) i = g1.2.1 (.inl 113) i := fun i => (E4.1 (.inl 113) i (show Nat.testBit _ 325 = false by decide +kernel)).trans ((E3.1 (.inl 113) i (show Nat.testBit _ 325 = false by decide +kernel)).trans (e2 113 i (by omega)))
  have b4 : g4.2.1 (.inl 105) 12 = nI N := (E4.1 (.inl 105) 12 (by decide +kernel)).trans ((E3.1 (.inl 105) 12 (by decide +kernel)).trans ((e2 105 12 (by omega)).trans b1))
  rw [kF2, q4, c22, nI_toInt (by omega), nI_toInt (by omega)] at H4
  have c4S : (g4.2.1 (.inl 106) S).toInt = ((C1 + C2 : Nat) : Int) := by rw [q4, c2S, nI_toInt (by omega)]
  have E4' : sf_E 2186716728024031696851903471801560838766502076641168701059890292508562462111502029113570031302606848 h0 g4 := sf_Et (by decide +kernel) (sf_Et (by decide +kernel) E2 E3) E4
  have Gb : sd_Gb g4 S 0 := by
    refine ⟨fun c hc => ?_, fun p hp hq => ?_, fun a b ha hb => ?_, fun k hk => ?_, fun k k' hk hk' => ?_⟩
    · have := H4 c (by rw [c4S] at hc; omega)
      rw [kS] at this
      exact this
    · rw [p4, z12 p hp] at hq
      omega
    · apply Int32.toInt_inj.mp
      rw [p4, p4, show 36 * S + 6 * a + b = 36 * S + (6 * a + b) by omega, show 36 * S + 6 * b + a = 36 * S + (6 * b + a) by omega, z12 _ (by omega), z12 _ (by omega)]
    · omega
    · omega
  have n4 : (g4.2.1 (.inl 105) 1).toInt = S := by rw [s4, nI_toInt (by omega)]
  have U4 : sf_I (sd_u g4 S) := sd_GI I4 n4 hS Gb
  have hN200 : N ≤ 200 := by omega
  have P4 : ∀ F, F < S → sd_C sd_CL (sd_P g4 F 1000) ≤ sd_C sd_CL (sd_P h F 1000) := fun F hF => sd_C_mono (sd_P_c hF (fun p hp => ((p4 p).trans (f11 p hp)).symm) 1000)
  have m1 := P4 F1 h1
  have m2 := P4 F2 h2
  refine sd278 (Y := 0) (cF := C1) U4 s4 h1 hS ((q4 F1).trans c21) (by rw [c4S]; omega) (by omega) b4 (by omega) (fun x hx a c ha hc e => ?_) (fun g5 N1 W1 E5 => hx_n ⟨v1, ?_⟩)
  · exfalso
    have := sd_low I4 n4 (x := x) (by rw [b4, nI_toInt (by omega)]; omega)
    omega
  obtain ⟨U5, s5, b5, l5, k5, fr5, w5⟩ := id W1
  have k5' : sd_C sd_CL (sd_P g4 F1 (N : Int)) ≤ sd_C sd_CL (sd_P g4 F1 1000) := sd_C_mono (fun z _ q => sd_P_mono (by omega) z q)
  rw [fr5.1, q4, c21]
  have P5 : sd_C sd_CL (sd_P g5 F2 1000) ≤ sd_C sd_CL (sd_P h F2 1000) := Nat.le_trans (sd_C_mono (sd_P_c h2 (fun p hp => (fr5.2 p hp).symm) 1000)) m2
  refine sd278 (Y := C1) (cF := C2) U5 s5 h2 hS ((fr5.1 F2).trans ((q4 F2).trans c22)) (by rw [fr5.1, c4S]; exact Int.le_refl _) (by omega) b5 (by omega) (fun x hx a c ha hc e => ?_) (fun g6 N2 W2 E6 => hx_n ⟨by decide +kernel, v1, by decide +kernel, ?_⟩)
  · rcases w5 x hx a c ha hc e with q | ⟨b', hb', x', y', hx', hy', e', ea, ec⟩
    · omega
    · have := sd_onc U5 b5 (by omega) (show b' < N1 by omega) hx' hy' e'
      rw [fr5.1, q4, c21, nI_toInt (by omega)] at this
      omega
  obtain ⟨U6, s6, b6, l6, k6, fr6, w6⟩ := id W2
  have k6' : sd_C sd_CL (sd_P g5 F2 (N1 : Int)) ≤ sd_C sd_CL (sd_P g5 F2 1000) := sd_C_mono (fun z _ q => sd_P_mono (by omega) z q)
  have hN2 : N2 ≤ 199 := by omega
  have c6F : g6.2.1 (.inl 106) F1 = nI C1 := (fr6.1 F1).trans ((fr5.1 F1).trans ((q4 F1).trans c21))
  have c6S : (g6.2.1 (.inl 106) S).toInt = ((C1 + C2 : Nat) : Int) := by rw [fr6.1, fr5.1, c4S]
  rw [c6F, eB, eA, nI_add, b6]
  have free : ∀ z : Nat, z < N2 → (g6.2.1 (.inl 117) z).toInt ≠ ((36 * S + 6 * A + (C1 + B) : Nat) : Int) + 1 ∧ (g6.2.1 (.inl 117) z).toInt ≠ ((36 * S + 6 * (C1 + B) + A : Nat) : Int) + 1 := fun z hz => by
    refine ⟨fun e => ?_, fun e => ?_⟩
    · rcases w6 z hz A (C1 + B) (by omega) (by omega) e with q | ⟨b', hb', x', y', hx', hy', e', ea, ec⟩
      · omega
      · omega
    · rcases w6 z hz (C1 + B) A (by omega) (by omega) e with q | ⟨b', hb', x', y', hx', hy', e', ea, ec⟩
      · omega
      · omega
  refine sx181 (show S ≤ 12 by omega) (show A ≤ 5 by omega) (show C1 + B ≤ 5 by omega) (hx_n ⟨by decide +kernel, v1, by decide +kernel, ?_⟩)
  rw [nI_1]
  generalize hg : sx_p (sx_p g6 (36 * S + 6 * A + (C1 + B)) (nI (N2 + 1)) a4 0) (36 * S + 6 * (C1 + B) + A) (nI (N2 + 1)) a4 0 = g7
  have U7 : sf_I (sd_u g7 S) := by
    subst hg
    rw [sd_up, sd_up]
    exact sd_set U6 (by omega) (show A < 6 by omega) (show C1 + B < 6 by omega) (sf_nI (by omega) (by decide +kernel)) pv (iv_w (c := 0) (d := 9) ivk_0 (by decide +kernel)) (fun z hz => by
      rw [sd_ur (by omega), b6, nI_toInt (by omega)] at hz
      rw [sd_ur (by omega)]
      exact free z (by omega))
  have f7 : ∀ n i, n ≠ 111 ∧ n ≠ 112 ∧ n ≠ 113 → g7.2.1 (.inl n) i = g6.2.1 (.inl n) i := fun n i hn => by
    subst hg
    unfold sx_p
    rw [sf_ro (fun c => by have := Sum.inl.inj c; omega), sf_ro (fun c => by have := Sum.inl.inj c; omega), sf_ro (fun c => by have := Sum.inl.inj c; omega), sf_ro (fun c => by have := Sum.inl.inj c; omega), sf_ro (fun c => by have := Sum.inl.inj c; omega), sf_ro (fun c => by have := Sum.inl.inj c; omega)]
  have b7 : g7.2.1 (.inl 105) 12 = nI N2 := (f7 _ _ (by decide +kernel)).trans b6
  have st7 : 1 ≤ (g7.2.1 (.inl 111) (36 * S + 6 * A + (C1 + B))).toInt := by
    subst hg
    rw [sd_sr, if_pos (Or.inl rfl)]
    exact pv.1
  rw [f7 106 F1 (by decide +kernel), c6F, nI_add]
  have v12 : vp_in (nI S) 12 := vp_in_nI (by omega) (by decide +kernel)
  refine sx193 (show S ≤ 12 by omega) (show A < 6 by omega) (show C1 + B < 6 by omega) b7 (by omega) (hx_n ⟨v12, v12, ?_⟩)
  have U8 := sd_bear (A := A) (B := C1 + B) U7 hS (by omega) (by omega) (by omega) (by rw [f7 106 S (by simp), c6S]; omega) (by rw [f7 106 S (by simp), c6S]; omega) b7 (by omega) st7 (fun z hz => by rw [f7 117 z (by simp)]; exact free z hz)
  generalize hg8 : sx_b g7 S A (C1 + B) N2 = g8 at U8
  have s8 : g8.2.1 (.inl 105) 1 = nI S := by
    subst hg8
    exact (f7 105 1 (by decide +kernel)).trans s6
  have E8 : sf_E 2186716728024031696851903471801560838766502076641168701059890292508562462111502029113570031302606848 h0 g8 := by
    subst hg8
    refine sx_bE (by decide +kernel) (by decide +kernel) (by decide +kernel) (by decide +kernel) (by decide +kernel) (by decide +kernel) ?_
    subst hg
    exact sf_Ep (by decide +kernel) (by decide +kernel) (by decide +kernel) (sf_Ep (by decide +kernel) (by decide +kernel) (by decide +kernel) (sf_Et (by decide +kernel) (sf_Et (by decide +kernel) E4' E5) E6))
  have e8 : (mx_uI (mx_uI g8 (.inl 114) S (nI F1)) (.inl 115) S (nI F2)).2.1 (.inl 105) 1 = nI S := s8
  rw [e8, nI_1]
  refine hQ _ _ ?_ (sf_Eu (r := 225) rfl (by decide +kernel) (sf_Eu (r := 327) rfl (by decide +kernel) (sf_Eu (r := 326) rfl (by decide +kernel) E8))) ⟨by have := iS.1; omega, iS.2⟩
  show sf_I (sd_u (mx_uI (mx_uI g8 (.inl 114) S (nI F1)) (.inl 115) S (nI F2)) S)
  rw [sd_uu (by omega), sd_uu (by omega)]
  exact sf_uI (r := 327) (sf_uI (r := 326) U8 rfl iF1 (by decide +kernel)) rfl iF2 (by decide +kernel)
theorem sf280_f {E : mx_Ev} {d : Nat} {h0 h : mx_H} {Q : Option mx_V → mx_H → Prop} {a1 a2 a3 a4 a5 : Int32} {n1 n2 : Int} (hQ : ∀ x h', sf_I h' → sf_E 2186716728024031696851903471801560838766502076641168701059890292508562462111502029113570031302606848 h0 h' → sf_iv (-3) 11 x → Q (some (.inl (.int x))) h') (hI : sf_I h) (hE : sf_E 2186716728024031696851903471801560838766502076641168701059890292508562462111502029113570031302606848 h0 h)
    (p1 : 0 ≤ a1.toInt) (q1 : a1.toInt < (h.2.1 (.inl 105) 1).toInt) (p2 : 0 ≤ a2.toInt) (q2 : a2.toInt < (h.2.1 (.inl 105) 1).toInt) (h11 : (h.2.1 (.inl 105) 1).toInt ≤ 11) (e5 : a5.toInt = (h.2.1 (.inl 105) 1).toInt) (c6 : (h.2.1 (.inl 106) a1.toNatClampNeg).toInt + (h.2.1 (.inl 106) a2.toNatClampNeg).toInt ≤ 6)
    (A0 : 0 ≤ (a3 / 10).toInt) (A1 : (a3 / 10).toInt < (h.2.1 (.inl 106) a1.toNatClampNeg).toInt) (B0 : 0 ≤ (a3 - a3 / 10 * 10).toInt) (B1 : (a3 - a3 / 10 * 10).toInt < (h.2.1 (.inl 106) a2.toNatClampNeg).toInt) (pv : sf_iv 1 9 a4) (hN : (h.2.1 (.inl 105) 12).toInt + n1 + n2 + 1 ≤ 200) (N1 : ((sd_C sd_CL (sd_P h a1.toNatClampNeg 1000) : Nat) : Int) ≤ n1) (N2 : ((sd_C sd_CL (sd_P h a2.toNatClampNeg 1000) : Nat) : Int) ≤ n2) :
    mx_T E (mx_fn true) (d + 4) 0 0 280 117 [(0, .inr (.inl 105)), (1, .inl (.int a1)), (2, .inl (.int a2)), (3, .inl (.int a3)), (4, .inl (.int a4)), (5, .inl (.int a5))] [] h Q := by
  obtain ⟨F1, hF1, rfl⟩ := sf_of (b := 11) (x := a1) ⟨p1, by omega⟩
  obtain ⟨F2, hF2, rfl⟩ := sf_of (b := 11) (x := a2) ⟨p2, by omega⟩
  obtain ⟨S, hS, es⟩ := sf_of (b := 11) (x := h.2.1 (.inl 105) 1) ⟨by omega, h11⟩
  obtain ⟨N, hN2, eN⟩ := sf_of (b := 200) (sf_rd (r := 236) (lo := 0) (hi := 200) hI (.inl 105) 12 rfl rfl)
  have k1 : (nI F1).toNatClampNeg = F1 := nI_clamp (by omega)
  have k2 : (nI F2).toNatClampNeg = F2 := nI_clamp (by omega)
  rw [k1] at c6 A1 N1
  rw [k2] at c6 B1 N2
  obtain ⟨C1, hC1, e1⟩ := sf_of (b := 6) (sf_rd (r := 318) (lo := 0) (hi := 6) hI (.inl 106) F1 rfl rfl)
  obtain ⟨C2, hC2, e2⟩ := sf_of (b := 6) (sf_rd (r := 318) (lo := 0) (hi := 6) hI (.inl 106) F2 rfl rfl)
  rw [e1, nI_toInt (by omega)] at c6 A1
  rw [e2, nI_toInt (by omega)] at c6 B1
  rw [es, nI_toInt (by omega), nI_toInt (by omega)] at q1 q2
  rw [eN, nI_toInt (by omega)] at hN
  have e5' : a5 = nI S := by
    rw [← es]
    exact Int32.toInt_inj.mp e5
  subst e5'
  obtain ⟨A, hA, eA⟩ := sf_of (b := 6) (x := a3 / 10) ⟨A0, by omega⟩
  obtain ⟨B, hB, eB⟩ := sf_of (b := 6) (x := a3 - a3 / 10 * 10) ⟨B0, by omega⟩
  rw [eA, nI_toInt (by omega)] at A1
  rw [eB, nI_toInt (by omega)] at B1
  exact sf280_t hQ hI hE es hS (by omega) (by omega) e1 e2 (by omega) eA eB (by omega) (by omega) pv eN (by omega)
