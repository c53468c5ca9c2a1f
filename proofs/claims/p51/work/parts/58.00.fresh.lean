/-! ===== what lies beyond a cell's end does not matter; the first heap ===== -/
theorem mx_D_norm {E : mx_Ev} {fin : mx_A → Nat → Option mx_A} {h h' : mx_H} {s : State} {H : Heap} {locs : List Loc} (e1 : h'.1 = h.1) (e2 : h'.2.2.1 = h.2.2.1) (ei : ∀ a, mx_wfa h.1 a → (mx_lo a).1 ≤ 103 → (mx_lo a).1 ≠ 101 → ∀ i, i < (mx_lo a).2 → h'.2.1 a i = h.2.1 a i) (er : ∀ a, mx_wfa h.1 a → ∀ i, i < (mx_lo a).2 → h'.2.2.2 a i = h.2.2.2 a i)
    (es : ∀ a k b, h'.2.2.2 a k = some b → h.2.2.2 a k = some b) (ef : ∀ a k b, fin a k = some b → h'.2.2.2 a k = h.2.2.2 a k) (hD : mx_D E fin h s H locs) : mx_D E fin h' s H locs := by
  obtain ⟨d1, d2, d3, d4, d5, d6⟩ := hD
  have g : ∀ (k : Nat) (q : Nat × va_E), (mx_W E h')[k]? = some q → k < h.1 ∧ q = (mx_B E + k, mx_cell E h' (mx_adr k)) := fun k q hq => by
    unfold mx_W at hq
    rw [List.getElem?_map, e1] at hq
    by_cases hk : k < h.1
    · rw [List.getElem?_range hk] at hq
      cases hq
      exact ⟨hk, rfl⟩
    · rw [List.getElem?_eq_none (by simpa using hk)] at hq
      cases hq
  have g0 : ∀ k, k < h.1 → (mx_W E h)[k]? = some (mx_B E + k, mx_cell E h (mx_adr k)) := fun k hk => by
    unfold mx_W
    rw [List.getElem?_map, List.getElem?_range hk]
    rfl
  refine ⟨fun k q hq => ?_, ⟨fun i j p q hp hq e => ?_, fun k q hq => ?_⟩, d3, by rw [e1]; exact d4, fun a k b hb => by rw [e1]; exact d5 a k b (es a k b hb), fun a k b hb ha => ?_⟩
  · obtain ⟨hk, rfl⟩ := g k q hq
    have p := d1 k _ (g0 k hk)
    have ha : mx_wfa h.1 (mx_adr k) := ⟨mx_va_adr k, by rw [mx_pos_adr]; exact hk⟩
    generalize hA : mx_adr k = a at p ha ⊢
    have ei' := ei a ha
    have er' := er a ha
    unfold mx_cell at p ⊢
    by_cases c : (mx_lo a).1 < 100
    · rw [if_pos c] at p ⊢
      have el : (List.range (mx_lo a).2).map (mx_fv E h' a (mx_lo a).1) = (List.range (mx_lo a).2).map (mx_fv E h a (mx_lo a).1) := by
        apply List.map_congr_left
        intro i hi
        have hi := List.mem_range.mp hi
        unfold mx_fv
        rw [ei' (by omega) (by omega) i hi, er' i hi]
      rw [el]
      exact p
    · rw [if_neg c] at p ⊢
      unfold mx_ar at p ⊢
      by_cases c1 : (mx_lo a).1 = 101
      · rw [if_pos c1] at p ⊢
        rw [e2]
        exact p
      · rw [if_neg c1] at p ⊢
        by_cases c2 : (mx_lo a).1 ≤ 103
        · rw [if_pos c2] at p ⊢
          have p' : H[mx_B E + k]? = some (arrV (mx_aC E ((mx_lo a).1 - 100)) (mx_lo a).2 (fun j => .int (h.2.1 a j))) := p
          show H[mx_B E + k]? = some (arrV (mx_aC E ((mx_lo a).1 - 100)) (mx_lo a).2 (fun j => .int (h'.2.1 a j)))
          rw [p']
          unfold arrV
          have eq : (Array.ofFn (n := (mx_lo a).2) fun j => Value.int (h.2.1 a j.val)) = (Array.ofFn (n := (mx_lo a).2) fun j => Value.int (h'.2.1 a j.val)) := by
            congr 1
            funext j
            rw [ei' c2 c1 j.val j.isLt]
          rw [eq]
        · rw [if_neg c2] at p ⊢
          have p' : H[mx_B E + k]? = some (arrV (mx_aC E ((mx_lo a).1 - 100)) (mx_lo a).2 (fun j => va_rf ((h.2.2.2 a j).map (mx_ad E)))) := p
          show H[mx_B E + k]? = some (arrV (mx_aC E ((mx_lo a).1 - 100)) (mx_lo a).2 (fun j => va_rf ((h'.2.2.2 a j).map (mx_ad E))))
          rw [p']
          unfold arrV
          have eq : (Array.ofFn (n := (mx_lo a).2) fun j => va_rf ((h.2.2.2 a j.val).map (mx_ad E))) = (Array.ofFn (n := (mx_lo a).2) fun j => va_rf ((h'.2.2.2 a j.val).map (mx_ad E))) := by
            congr 1
            funext j
            rw [er' j.val j.isLt]
          rw [eq]
  · obtain ⟨hi, rfl⟩ := g i p hp
    obtain ⟨hj, rfl⟩ := g j q hq
    exact d2.1 i j _ _ (g0 i hi) (g0 j hj) e
  · obtain ⟨hk, rfl⟩ := g k q hq
    have t := d2.2 k _ (g0 k hk)
    exact t
  · rw [ef a k b hb]
    exact d6 a k b hb (by rw [← e1]; exact ha)
theorem ml_c0 : mx_co [(0, .inl (.float 2)), (1, .inr (.inl 0)), (2, .inr (.inl 105)), (3, .inl (.int 0))] (mx_get [(0, .inl (.float 2)), (1, .inr (.inl 0)), (2, .inr (.inl 105)), (3, .inl (.int 0))]) := by
  intro q hq
  simp only [List.mem_cons, List.not_mem_nil, or_false] at hq
  rcases hq with rfl | rfl | rfl | rfl <;> rfl
theorem mx_T0.norm {E : mx_Ev} {fin : mx_A → Nat → Option mx_A} {d bc bs mid pc : Nat} {lv : mx_Lv} {st : List mx_V} {h h' : mx_H} {Q : Option mx_V → mx_H → Prop} (e1 : h'.1 = h.1) (e2 : h'.2.2.1 = h.2.2.1) (ei : ∀ a, mx_wfa h.1 a → (mx_lo a).1 ≤ 103 → (mx_lo a).1 ≠ 101 → ∀ i, i < (mx_lo a).2 → h'.2.1 a i = h.2.1 a i) (er : ∀ a, mx_wfa h.1 a → ∀ i, i < (mx_lo a).2 → h'.2.2.2 a i = h.2.2.2 a i)
    (es : ∀ a k b, h'.2.2.2 a k = some b → h.2.2.2 a k = some b) (ef : ∀ a k b, fin a k = some b → h'.2.2.2 a k = h.2.2.2 a k) (hT : mx_T0 E fin d bc bs mid pc lv st h' Q) : mx_T0 E fin d bc bs mid pc lv st h Q :=
  fun p e R s m args below meth c H locs cells slots Qw ls hS hD h1 h2 h3 h4 h5 h6 => hT p e R s m args below meth c H locs cells slots Qw ls hS (mx_D_norm e1 e2 ei er es ef hD) h1 h2 (by rw [e1]; exact h3) (by rw [e1]; exact h4) h5 (by rw [e1]; exact h6)
theorem sp_N3 (i : Nat) : sp_hN.2.2.2 (.inl 3) i = none := by
  rw [sp_hN_r]
  by_cases c : i < 12
  · have := sp_okr
    simp only [Bool.and_eq_true, List.all_eq_true] at this
    rw [Option.isNone_iff_eq_none.mp (this.1 i (List.mem_range.mpr c))]
    cases sp_cut (.inl 3) i <;> rfl
  · rw [show sp_cut (.inl 3) i = true from by unfold sp_cut; simp [Nat.ble_eq]; omega]
    rfl
theorem sp_N85 (i : Nat) : sp_hN.2.2.2 (.inl 85) i = none := by
  rw [sp_hN_r]
  by_cases c : i < 40
  · have := sp_okr
    simp only [Bool.and_eq_true, List.all_eq_true] at this
    rw [Option.isNone_iff_eq_none.mp (this.2.1 i (List.mem_range.mpr c))]
    cases sp_cut (.inl 85) i <;> rfl
  · rw [show sp_cut (.inl 85) i = true from by unfold sp_cut; simp [Nat.ble_eq]; omega]
    rfl
theorem sp_N92 (i : Nat) : sp_hN.2.2.2 (.inl 92) i = none := by
  rw [sp_hN_r]
  by_cases c : i < 200
  · have := sp_okr
    simp only [Bool.and_eq_true, List.all_eq_true] at this
    rw [Option.isNone_iff_eq_none.mp (this.2.2 i (List.mem_range.mpr c))]
    cases sp_cut (.inl 92) i <;> rfl
  · rw [show sp_cut (.inl 92) i = true from by unfold sp_cut; simp [Nat.ble_eq]; omega]
    rfl
theorem sp_N6 (j : Nat) : sp_hN.2.1 (.inr (j, 0)) 6 = 0 := by
  by_cases c : j = 0
  · subst c
    exact sp_N0.2.2.2.2.2.2.2.2.2
  · rw [sp_hN_i]
    rw [show sp_ok (.inr (j, 0)) 6 = false from by
      unfold sp_ok
      rw [sn_pos c (by decide +kernel), show Nat.blt (158 + 9 * j + 0) 167 = false from by
        cases q : Nat.blt (158 + 9 * j + 0) 167
        · rfl
        · have := Nat.blt_eq.mp q
          omega]
      rfl]
    rfl
theorem sp_gen {h : mx_H} (hn : h.1 = 167) (hb : ∀ a i, sf_iv (sf_bd a i).1 (sf_bd a i).2 (h.2.1 a i)) (r3 : ∀ i, h.2.2.2 (.inl 3) i = none) (r85 : ∀ i, h.2.2.2 (.inl 85) i = none) (r92 : ∀ i, h.2.2.2 (.inl 92) i = none) (r6 : ∀ j, h.2.1 (.inr (j, 0)) 6 = 0)
    (n0 : h.2.2.2 (.inl 0) 3 = some (.inr (0, 0)) ∧ h.2.1 (.inl 0) 2 = 0 ∧ h.2.1 (.inl 60) 1 = 0 ∧ h.2.1 (.inl 84) 0 = 0 ∧ h.2.1 (.inl 84) 1 = 0 ∧ h.2.1 (.inl 105) 24 = 0 ∧ h.2.1 (.inl 105) 25 = 0 ∧ h.2.1 (.inl 105) 1 = 0 ∧ h.2.1 (.inl 105) 12 = 0 ∧ h.2.1 (.inr (0, 0)) 6 = 0) : sf_I h := by
  obtain ⟨n1, n2, n3, n4, n5, n6, n7, n8, n9, n10⟩ := n0
  have z : ∀ {a i r}, sf_rg a i = r → sf_jr r = true → h.2.1 a i = 0 → sf_jf h a i = 0 := fun e hr e0 => by
    rw [sf_jfr e hr, e0]
    rfl
  refine ⟨hb, fun a i b hs hb => ?_, ⟨?_, ?_, ?_, ?_⟩, ⟨?_, ?_⟩, ?_, ?_, ?_, ?_⟩
  · rcases a with n | q
    · unfold sf_sr at hs
      simp only [Bool.or_eq_true, Bool.and_eq_true, Nat.beq_eq] at hs
      rcases hs with rfl | rfl | rfl | ⟨rfl, rfl⟩
      · cases (r3 i).symm.trans hb
      · cases (r85 i).symm.trans hb
      · cases (r92 i).symm.trans hb
      · cases n1.symm.trans hb
        exact ⟨_, rfl⟩
    · cases hs
  · intro j k hk
    rw [z (r := 385) rfl rfl (r6 j)] at hk
    omega
  · intro k hk
    rw [z (r := 137) rfl rfl n3] at hk
    omega
  · unfold sf_J3
    rw [z (r := 190) rfl rfl n4, z (r := 191) rfl rfl n5]
    exact ⟨by decide +kernel, fun k hk => by omega⟩
  · refine ⟨0, n1, hn, z (r := 2) rfl rfl n2, fun i j hb => ?_⟩
    cases (r3 i).symm.trans hb
  · rw [z (r := 248) rfl rfl n6, z (r := 249) rfl rfl n7]
    decide
  · rw [z (r := 248) rfl rfl n6, z (r := 249) rfl rfl n7]
    intro k hk
    omega
  · intro s c hs
    rw [z (r := 225) rfl rfl n8] at hs
    omega
  · intro p hp
    rw [z (r := 225) rfl rfl n8] at hp
    omega
  · intro s a b hs
    rw [z (r := 225) rfl rfl n8] at hs
    omega
  · intro b hb
    rw [z (r := 236) rfl rfl n9] at hb
    omega
theorem sp_Nb (a : mx_A) (i : Nat) : sf_iv (sf_bd a i).1 (sf_bd a i).2 (sp_hN.2.1 a i) := by
  rw [sp_hN_i]
  cases q : sp_ok a i
  · exact sn_iv0 _ _
  · unfold sp_ok at q
    simp only [Bool.and_eq_true, decide_eq_true_eq, Nat.blt_eq] at q
    have := sp_okb
    simp only [List.all_eq_true, Bool.or_eq_true, Bool.and_eq_true, decide_eq_true_eq, Bool.not_eq_true'] at this
    rcases this (mx_pos a) (List.mem_range.mpr q.1) with t | t
    · rw [q.2.2.1, q.2.2.2] at t
      cases t
    · rcases t i (by rw [q.2.2.1]; exact List.mem_range.mpr q.2.1) with t | t
      · rw [q.2.2.1] at t
        have r := iv_rng (sp_h0.2.1 a i)
        exact ⟨Int.le_trans t.1 r.1, Int.le_trans r.2 t.2⟩
      · rw [q.2.2.1] at t
        exact t
theorem sp_NI : sf_I sp_hN := sp_gen (sp_hN_n.trans sp_h0_n) sp_Nb sp_N3 sp_N85 sp_N92 sp_N6 sp_N0
theorem sp_enter {E : mx_Ev} {Q : Option mx_V → mx_H → Prop} (H : mx_T E (mx_fn true) 1000 586 6306 0 18 [(0, .inl (.float 2)), (1, .inr (.inl 0)), (2, .inr (.inl 105)), (3, .inl (.int 0))] [] sp_hN Q) :
    mx_T0 E (mx_fn false) 1000 753 22667 0 0 [(0, .inl (.float 2))] [] sp_he Q := by
  refine sp_entry (mx_T0.norm (h' := sp_hN) sp_hN_n sp_hN_l (fun a ha k1 k2 i hi => ?_) (fun a ha i hi => ?_) (fun a k b hb => ?_) (fun a k b hb => ?_) (mx_T.weak (f := mx_get [(0, .inl (.float 2)), (1, .inr (.inl 0)), (2, .inr (.inl 105)), (3, .inl (.int 0))]) ml_c0 H))
  · rw [sp_hN_i]
    rw [sp_h0_n] at ha
    rw [show sp_ok a i = true from by
      unfold sp_ok
      unfold sp_kd
      simp only [Bool.and_eq_true, Bool.or_eq_true, decide_eq_true_eq, Nat.blt_eq, Nat.ble_eq, Nat.beq_eq]
      exact ⟨ha.2, hi, mx_adr_pos ha.1, by omega⟩]
    rfl
  · rw [sp_hN_r]
    have q : sp_cut a i = false := by
      cases q : sp_cut a i
      · rfl
      · exfalso
        rcases a with n | q'
        · unfold sp_cut at q
          simp only [Bool.or_eq_true, Bool.and_eq_true, Nat.beq_eq, Nat.ble_eq] at q
          rcases q with ⟨rfl, q⟩ | ⟨rfl, q⟩ | ⟨rfl, q⟩
          · have : i < 12 := hi
            omega
          · have : i < 40 := hi
            omega
          · have : i < 200 := hi
            omega
        · cases q
    rw [q]
    rfl
  · have hb' := hb
    rw [sp_hN_r] at hb'
    cases q : sp_cut a k
    · rw [q] at hb'
      exact hb'
    · rw [q] at hb'
      cases hb'
  · rw [sp_hN_r]
    cases q : sp_cut a k
    · rfl
    · exfalso
      rcases a with n | q'
      · unfold sp_cut at q
        simp only [Bool.or_eq_true, Bool.and_eq_true, Nat.beq_eq] at q
        rcases q with ⟨rfl, -⟩ | ⟨rfl, -⟩ | ⟨rfl, -⟩ <;> cases hb
      · cases q
/-! ===== answers, exactly, of the calls that nothing else touches ===== -/
theorem li_nw {x l u : Int32} {X L U : Int} (g : ¬ (l ≤ x ∧ x ≤ u)) (ex : x.toInt = X) (el : l.toInt = L) (eu : u.toInt = U) : ¬ (L ≤ X ∧ X ≤ U) := by
  rw [← ex, ← el, ← eu]
  exact fun q => g ⟨Int32.le_iff_toInt_le.mpr q.1, Int32.le_iff_toInt_le.mpr q.2⟩
/-! ===== methods that end and keep their bounds: written by program, checked by Lean ===== -/
set_option maxRecDepth 10000 in
theorem sf125e {E : mx_Ev} {d : Nat} {h : mx_H} {Q : Option mx_V → mx_H → Prop} {a1 : Int32} (pa1 : sf_iv (-2147483648) 2147483647 a1) (hI : sf_I h) (hQ : ∀ x h', sf_I h' → sf_E 5937350401656793105202469632909899767352225955840 h h' → sf_iv (-3) 6 x → (0 ≤ (a1 : Int32).toInt ∧ (a1 : Int32).toInt ≤ 99 → ((h.2.1 (.inl 68) 0 : Int32).toInt < 6 → (x : Int32).toInt = (h.2.1 (.inl 68) 0 : Int32).toInt + 1 ∧ ((h').2.1 (.inl 68) 0 : Int32).toInt = (h.2.1 (.inl 68) 0 : Int32).toInt + 1) ∧ (6 ≤ (h.2.1 (.inl 68) 0 : Int32).toInt → (x : Int32).toInt = -3 ∧ ((h').2.1 (.inl 68) 0 : Int32).toInt = (h.2.1 (.inl 68) 0 : Int32).toInt)) ∧ (¬ (0 ≤ (a1 : Int32).toInt ∧ (a1 : Int32).toInt ≤ 99) → (x : Int32).toInt = -1 ∧ ((h').2.1 (.inl 68) 0 : Int32).toInt = (h.2.1 (.inl 68) 0 : Int32).toInt) → Q (some (.inl (.int x))) h') : mx_C E (mx_fn true) (d + 1) 125 [.inr (.inl 0), .inl (.int a1)] h Q :=
  sg125_0 (sp_wi (fun g11 => hx_i ⟨fun g12 => ⟨fun g13 => (sg12_0 ⟨fun g14 => ⟨(iv_in (iv_w (c := 0) (d := 5) (iv_ltl g13 (srd_156_68_0 hI) ivk_6) (by decide +kernel)) (by decide +kernel)), hx_n (hQ _ _ (sf_uI (r := 156) (sf_uI (r := 162) hI rfl (iv_w (c := 0) (d := 99) (iv_lel g11.2 (iv_w (c := 0) (d := 2147483647) (iv_ler g11.1 ivk_0 pa1) (by decide +kernel)) ivk_99) (by decide +kernel)) (by decide +kernel)) rfl (iv_add (lo := 1) (hi := 6) (iv_o (by decide +kernel) (iv_w (c := 0) (d := 5) (iv_ltl g13 (srd_156_68_0 hI) ivk_6) (by decide +kernel))) ivk_1 (by decide +kernel)) (by decide +kernel)) (sf_Eu (r := 156) rfl (by decide +kernel) (sf_Eu (r := 162) rfl (by decide +kernel) (sf_E0 _ _))) (iv_w (c := -3) (d := 6) (iv_s (iv_add (lo := 1) (hi := 6) (iv_o (by decide +kernel) (iv_w (c := 0) (d := 5) (iv_ltl g13 (srd_156_68_0 hI) ivk_6) (by decide +kernel))) ivk_1 (by decide +kernel))) (by decide +kernel)) (show (0 ≤ (a1 : Int32).toInt ∧ (a1 : Int32).toInt ≤ 99 → ((h.2.1 (.inl 68) 0 : Int32).toInt < 6 → ((mx_uI (mx_uI h (.inl 69) (Int32.toNatClampNeg (h.2.1 (.inl 68) 0)) a1) (.inl 68) 0 (((mx_uI h (.inl 69) (Int32.toNatClampNeg (h.2.1 (.inl 68) 0)) a1).2.1 (.inl 68) 0) + 1)).2.1 (.inl 68) 0 : Int32).toInt = (h.2.1 (.inl 68) 0 : Int32).toInt + 1 ∧ ((mx_uI (mx_uI h (.inl 69) (Int32.toNatClampNeg (h.2.1 (.inl 68) 0)) a1) (.inl 68) 0 (((mx_uI h (.inl 69) (Int32.toNatClampNeg (h.2.1 (.inl 68) 0)) a1).2.1 (.inl 68) 0) + 1)).2.1 (.inl 68) 0 : Int32).toInt = (h.2.1 (.inl 68) 0 : Int32).toInt + 1) ∧ (6 ≤ (h.2.1 (.inl 68) 0 : Int32).toInt → ((mx_uI (mx_uI h (.inl 69) (Int32.toNatClampNeg (h.2.1 (.inl 68) 0)) a1) (.inl 68) 0 (((mx_uI h (.inl 69) (Int32.toNatClampNeg (h.2.1 (.inl 68) 0)) a1).2.1 (.inl 68) 0) + 1)).2.1 (.inl 68) 0 : Int32).toInt = -3 ∧ ((mx_uI (mx_uI h (.inl 69) (Int32.toNatClampNeg (h.2.1 (.inl 68) 0)) a1) (.inl 68) 0 (((mx_uI h (.inl 69) (Int32.toNatClampNeg (h.2.1 (.inl 68) 0)) a1).2.1 (.inl 68) 0) + 1)).2.1 (.inl 68) 0 : Int32).toInt = (h.2.1 (.inl 68) 0 : Int32).toInt)) ∧ (¬ (0 ≤ (a1 : Int32).toInt ∧ (a1 : Int32).toInt ≤ 99) → ((mx_uI (mx_uI h (.inl 69) (Int32.toNatClampNeg (h.2.1 (.inl 68) 0)) a1) (.inl 68) 0 (((mx_uI h (.inl 69) (Int32.toNatClampNeg (h.2.1 (.inl 68) 0)) a1).2.1 (.inl 68) 0) + 1)).2.1 (.inl 68) 0 : Int32).toInt = -1 ∧ ((mx_uI (mx_uI h (.inl 69) (Int32.toNatClampNeg (h.2.1 (.inl 68) 0)) a1) (.inl 68) 0 (((mx_uI h (.inl 69) (Int32.toNatClampNeg (h.2.1 (.inl 68) 0)) a1).2.1 (.inl 68) 0) + 1)).2.1 (.inl 68) 0 : Int32).toInt = (h.2.1 (.inl 68) 0 : Int32).toInt) from (by have ⟨b17, b17_⟩ := (show sf_iv 0 5 (h.2.1 (.inl 68) 0) from (iv_w (c := 0) (d := 5) (iv_ltl g13 (srd_156_68_0 hI) ivk_6) (by decide +kernel))); have ⟨b18, b18_⟩ := (show sf_iv 0 99 a1 from (iv_w (c := 0) (d := 99) (iv_lel g11.2 (iv_w (c := 0) (d := 2147483647) (iv_ler g11.1 ivk_0 pa1) (by decide +kernel)) ivk_99) (by decide +kernel))); have f19 := li_le g11.1 ivt_0 (show (a1 : Int32).toInt = (a1).toInt from rfl); have f20 := li_le g11.2 (show (a1 : Int32).toInt = (a1).toInt from rfl) ivt_99; have f21 := li_ne g12 ivt_1 ivt_0; have f22 := li_lt g13 (show (h.2.1 (.inl 68) 0 : Int32).toInt = (h.2.1 (.inl 68) 0).toInt from rfl) ivt_6; have f23 := li_lt g14 (show (h.2.1 (.inl 68) 0 : Int32).toInt = (h.2.1 (.inl 68) 0).toInt from rfl) ivt_6; have e15 := (show ((mx_uI (mx_uI h (.inl 69) (Int32.toNatClampNeg (h.2.1 (.inl 68) 0)) a1) (.inl 68) 0 (((mx_uI h (.inl 69) (Int32.toNatClampNeg (h.2.1 (.inl 68) 0)) a1).2.1 (.inl 68) 0) + 1)).2.1 (.inl 68) 0 : Int32).toInt = ((h.2.1 (.inl 68) 0).toInt + 1) from (li_s (li_add (iv_o (by decide +kernel) (iv_w (c := 0) (d := 5) (iv_ltl g13 (srd_156_68_0 hI) ivk_6) (by decide +kernel))) ivk_1 (by decide +kernel) (li_o (by decide +kernel) rfl) rfl))); have e16 := (show ((mx_uI (mx_uI h (.inl 69) (Int32.toNatClampNeg (h.2.1 (.inl 68) 0)) a1) (.inl 68) 0 (((mx_uI h (.inl 69) (Int32.toNatClampNeg (h.2.1 (.inl 68) 0)) a1).2.1 (.inl 68) 0) + 1)).2.1 (.inl 68) 0 : Int32).toInt = ((h.2.1 (.inl 68) 0).toInt + 1) from (li_s (li_add (iv_o (by decide +kernel) (iv_w (c := 0) (d := 5) (iv_ltl g13 (srd_156_68_0 hI) ivk_6) (by decide +kernel))) ivk_1 (by decide +kernel) (li_o (by decide +kernel) rfl) rfl))); omega)) )⟩, fun g24 => absurd g13 g24⟩), fun g25 => hQ _ _ hI (sf_E0 _ _) (iv_w (c := -3) (d := 6) ivk_m3 (by decide +kernel)) (show (0 ≤ (a1 : Int32).toInt ∧ (a1 : Int32).toInt ≤ 99 → ((h.2.1 (.inl 68) 0 : Int32).toInt < 6 → ((-3) : Int32).toInt = (h.2.1 (.inl 68) 0 : Int32).toInt + 1 ∧ (h.2.1 (.inl 68) 0 : Int32).toInt = (h.2.1 (.inl 68) 0 : Int32).toInt + 1) ∧ (6 ≤ (h.2.1 (.inl 68) 0 : Int32).toInt → ((-3) : Int32).toInt = -3 ∧ (h.2.1 (.inl 68) 0 : Int32).toInt = (h.2.1 (.inl 68) 0 : Int32).toInt)) ∧ (¬ (0 ≤ (a1 : Int32).toInt ∧ (a1 : Int32).toInt ≤ 99) → ((-3) : Int32).toInt = -1 ∧ (h.2.1 (.inl 68) 0 : Int32).toInt = (h.2.1 (.inl 68) 0 : Int32).toInt) from (by have ⟨b27, b27_⟩ := (show sf_iv 6 6 (h.2.1 (.inl 68) 0) from (iv_w (c := 6) (d := 6) (iv_ler (Int32.not_lt.mp g25) ivk_6 (srd_156_68_0 hI)) (by decide +kernel))); have ⟨b28, b28_⟩ := (show sf_iv 0 99 a1 from (iv_w (c := 0) (d := 99) (iv_lel g11.2 (iv_w (c := 0) (d := 2147483647) (iv_ler g11.1 ivk_0 pa1) (by decide +kernel)) ivk_99) (by decide +kernel))); have f29 := li_le g11.1 ivt_0 (show (a1 : Int32).toInt = (a1).toInt from rfl); have f30 := li_le g11.2 (show (a1 : Int32).toInt = (a1).toInt from rfl) ivt_99; have f31 := li_ne g12 ivt_1 ivt_0; have f32 := li_le (Int32.not_lt.mp g25) ivt_6 (show (h.2.1 (.inl 68) 0 : Int32).toInt = (h.2.1 (.inl 68) 0).toInt from rfl); have e26 := (show ((-3) : Int32).toInt = (-3) from rfl); omega)) ⟩, fun g33 => (iv_no (iv_eql (Decidable.not_not.mp g33) ivk_1 ivk_0) (by decide +kernel)).elim⟩) (fun g34 => hx_i ⟨fun g35 => (iv_no (iv_nel g35 ivk_0 ivk_0) (by decide +kernel)).elim, fun g36 => hQ _ _ hI (sf_E0 _ _) (iv_w (c := -3) (d := 6) ivk_m1 (by decide +kernel)) (show (0 ≤ (a1 : Int32).toInt ∧ (a1 : Int32).toInt ≤ 99 → ((h.2.1 (.inl 68) 0 : Int32).toInt < 6 → ((-1) : Int32).toInt = (h.2.1 (.inl 68) 0 : Int32).toInt + 1 ∧ (h.2.1 (.inl 68) 0 : Int32).toInt = (h.2.1 (.inl 68) 0 : Int32).toInt + 1) ∧ (6 ≤ (h.2.1 (.inl 68) 0 : Int32).toInt → ((-1) : Int32).toInt = -3 ∧ (h.2.1 (.inl 68) 0 : Int32).toInt = (h.2.1 (.inl 68) 0 : Int32).toInt)) ∧ (¬ (0 ≤ (a1 : Int32).toInt ∧ (a1 : Int32).toInt ≤ 99) → ((-1) : Int32).toInt = -1 ∧ (h.2.1 (.inl 68) 0 : Int32).toInt = (h.2.1 (.inl 68) 0 : Int32).toInt) from (by have ⟨b38, b38_⟩ := (show sf_iv (-2147483648) 2147483647 a1 from pa1); have ⟨b39, b39_⟩ := (show sf_iv 0 6 (h.2.1 (.inl 68) 0) from (srd_156_68_0 hI)); have f40 := li_nw g34 (show (a1 : Int32).toInt = (a1).toInt from rfl) ivt_0 ivt_99; have f41 := li_eq (Decidable.not_not.mp g36) ivt_0 ivt_0; have e37 := (show ((-1) : Int32).toInt = (-1) from rfl); omega)) ⟩))
set_option maxRecDepth 10000 in
theorem sf128e {E : mx_Ev} {d : Nat} {h : mx_H} {Q : Option mx_V → mx_H → Prop}   (hI : sf_I h) (hQ : ∀ x h', sf_I h' → sf_E 91343852333181432387730302044767688728495783936 h h' → sf_iv 0 6 x → (x : Int32).toInt = (h.2.1 (.inl 68) 0 : Int32).toInt ∧ ((h').2.1 (.inl 68) 0 : Int32).toInt = 0 → Q (some (.inl (.int x))) h') : mx_C E (mx_fn true) d 128 [.inr (.inl 0)] h Q :=
  sg128_0 (hQ _ _ (sf_uI (r := 156) hI rfl ivk_0 (by decide +kernel)) (sf_Eu (r := 156) rfl (by decide +kernel) (sf_E0 _ _)) (srd_156_68_0 hI) (show (h.2.1 (.inl 68) 0 : Int32).toInt = (h.2.1 (.inl 68) 0 : Int32).toInt ∧ ((mx_uI h (.inl 68) 0 0).2.1 (.inl 68) 0 : Int32).toInt = 0 from (by have ⟨b43, b43_⟩ := (show sf_iv 0 6 (h.2.1 (.inl 68) 0) from (srd_156_68_0 hI)); have e42 := (show ((mx_uI h (.inl 68) 0 0).2.1 (.inl 68) 0 : Int32).toInt = 0 from (li_s rfl)); omega)) )
set_option maxRecDepth 10000 in
theorem sf129e {E : mx_Ev} {d : Nat} {h : mx_H} {Q : Option mx_V → mx_H → Prop} {a1 : Int32} (pa1 : sf_iv (-2147483648) 2147483647 a1) (hI : sf_I h) (hQ : ∀ x h', sf_I h' → sf_E 23384026197294446691258957323460528314494920687616 h h' → sf_iv (-1) 500 x → (0 ≤ (a1 : Int32).toInt ∧ (a1 : Int32).toInt ≤ 500 → (x : Int32).toInt = (h.2.1 (.inl 71) 0 : Int32).toInt ∧ ((h').2.1 (.inl 71) 0 : Int32).toInt = (a1 : Int32).toInt) ∧ (¬ (0 ≤ (a1 : Int32).toInt ∧ (a1 : Int32).toInt ≤ 500) → (x : Int32).toInt = -1 ∧ ((h').2.1 (.inl 71) 0 : Int32).toInt = (h.2.1 (.inl 71) 0 : Int32).toInt) → Q (some (.inl (.int x))) h') : mx_C E (mx_fn true) (d + 1) 129 [.inr (.inl 0), .inl (.int a1)] h Q :=
  sg129_0 (sp_wi (fun g50 => hx_i ⟨fun g51 => hQ _ _ (sf_uI (r := 164) hI rfl (iv_w (c := 0) (d := 500) (iv_lel g50.2 (iv_w (c := 0) (d := 2147483647) (iv_ler g50.1 ivk_0 pa1) (by decide +kernel)) ivk_500) (by decide +kernel)) (by decide +kernel)) (sf_Eu (r := 164) rfl (by decide +kernel) (sf_E0 _ _)) (iv_w (c := -1) (d := 500) (srd_164_71_0 hI) (by decide +kernel)) (show (0 ≤ (a1 : Int32).toInt ∧ (a1 : Int32).toInt ≤ 500 → (h.2.1 (.inl 71) 0 : Int32).toInt = (h.2.1 (.inl 71) 0 : Int32).toInt ∧ ((mx_uI h (.inl 71) 0 a1).2.1 (.inl 71) 0 : Int32).toInt = (a1 : Int32).toInt) ∧ (¬ (0 ≤ (a1 : Int32).toInt ∧ (a1 : Int32).toInt ≤ 500) → (h.2.1 (.inl 71) 0 : Int32).toInt = -1 ∧ ((mx_uI h (.inl 71) 0 a1).2.1 (.inl 71) 0 : Int32).toInt = (h.2.1 (.inl 71) 0 : Int32).toInt) from (by have ⟨b53, b53_⟩ := (show sf_iv 0 500 a1 from (iv_w (c := 0) (d := 500) (iv_lel g50.2 (iv_w (c := 0) (d := 2147483647) (iv_ler g50.1 ivk_0 pa1) (by decide +kernel)) ivk_500) (by decide +kernel))); have ⟨b54, b54_⟩ := (show sf_iv 0 500 (h.2.1 (.inl 71) 0) from (srd_164_71_0 hI)); have f55 := li_le g50.1 ivt_0 (show (a1 : Int32).toInt = (a1).toInt from rfl); have f56 := li_le g50.2 (show (a1 : Int32).toInt = (a1).toInt from rfl) ivt_500; have f57 := li_ne g51 ivt_1 ivt_0; have e52 := (show ((mx_uI h (.inl 71) 0 a1).2.1 (.inl 71) 0 : Int32).toInt = (a1).toInt from (li_s rfl)); omega)) , fun g58 => (iv_no (iv_eql (Decidable.not_not.mp g58) ivk_1 ivk_0) (by decide +kernel)).elim⟩) (fun g59 => hx_i ⟨fun g60 => (iv_no (iv_nel g60 ivk_0 ivk_0) (by decide +kernel)).elim, fun g61 => hQ _ _ hI (sf_E0 _ _) (iv_w (c := -1) (d := 500) ivk_m1 (by decide +kernel)) (show (0 ≤ (a1 : Int32).toInt ∧ (a1 : Int32).toInt ≤ 500 → ((-1) : Int32).toInt = (h.2.1 (.inl 71) 0 : Int32).toInt ∧ (h.2.1 (.inl 71) 0 : Int32).toInt = (a1 : Int32).toInt) ∧ (¬ (0 ≤ (a1 : Int32).toInt ∧ (a1 : Int32).toInt ≤ 500) → ((-1) : Int32).toInt = -1 ∧ (h.2.1 (.inl 71) 0 : Int32).toInt = (h.2.1 (.inl 71) 0 : Int32).toInt) from (by have ⟨b63, b63_⟩ := (show sf_iv (-2147483648) 2147483647 a1 from pa1); have ⟨b64, b64_⟩ := (show sf_iv 0 500 (h.2.1 (.inl 71) 0) from (srd_164_71_0 hI)); have f65 := li_nw g59 (show (a1 : Int32).toInt = (a1).toInt from rfl) ivt_0 ivt_500; have f66 := li_eq (Decidable.not_not.mp g61) ivt_0 ivt_0; have e62 := (show ((-1) : Int32).toInt = (-1) from rfl); omega)) ⟩))
set_option maxRecDepth 10000 in
theorem sf139e {E : mx_Ev} {d : Nat} {h : mx_H} {Q : Option mx_V → mx_H → Prop} {a1 : Int32} {a2 : Int32} (pa1 : sf_iv (-2147483648) 2147483647 a1) (pa2 : sf_iv (-2147483648) 2147483647 a2) (hI : sf_I h) (hQ : ∀ x h', sf_I h' → sf_E 600738252019428432476472034642921199978545735895972052992 h h' → sf_iv (-3) 6 x → (1 ≤ (a1 : Int32).toInt ∧ (a1 : Int32).toInt ≤ 9 ∧ 1 ≤ (a2 : Int32).toInt ∧ (a2 : Int32).toInt ≤ 9 → ((h.2.1 (.inl 80) 0 : Int32).toInt < 6 → (x : Int32).toInt = (h.2.1 (.inl 80) 0 : Int32).toInt + 1 ∧ ((h').2.1 (.inl 80) 0 : Int32).toInt = (h.2.1 (.inl 80) 0 : Int32).toInt + 1) ∧ (6 ≤ (h.2.1 (.inl 80) 0 : Int32).toInt → (x : Int32).toInt = -3 ∧ ((h').2.1 (.inl 80) 0 : Int32).toInt = (h.2.1 (.inl 80) 0 : Int32).toInt)) ∧ (¬ (1 ≤ (a1 : Int32).toInt ∧ (a1 : Int32).toInt ≤ 9 ∧ 1 ≤ (a2 : Int32).toInt ∧ (a2 : Int32).toInt ≤ 9) → (x : Int32).toInt = -1 ∧ ((h').2.1 (.inl 80) 0 : Int32).toInt = (h.2.1 (.inl 80) 0 : Int32).toInt) → Q (some (.inl (.int x))) h') : mx_C E (mx_fn true) (d + 1) 139 [.inr (.inl 0), .inl (.int a1), .inl (.int a2)] h Q :=
  sg139_0 (sp_wi (fun g83 => hx_i ⟨fun g84 => (iv_no (iv_eql g84 ivk_1 ivk_0) (by decide +kernel)).elim, fun g85 => (sp_wi (fun g86 => hx_i ⟨fun g87 => ⟨fun g88 => (sg53_0 ⟨fun g89 => ⟨(iv_in (iv_w (c := 0) (d := 5) (iv_ltl g88 (srd_183_80_0 hI) ivk_6) (by decide +kernel)) (by decide +kernel)), ⟨(iv_in (iv_o (by decide +kernel) (iv_w (c := 0) (d := 5) (iv_ltl g88 (srd_183_80_0 hI) ivk_6) (by decide +kernel))) (by decide +kernel)), hx_n (hQ _ _ (sf_uI (r := 183) (sf_uI (r := 188) (sf_uI (r := 187) hI rfl (iv_w (c := 1) (d := 9) (iv_lel g83.2 (iv_w (c := 1) (d := 2147483647) (iv_ler g83.1 ivk_1 pa1) (by decide +kernel)) ivk_9) (by decide +kernel)) (by decide +kernel)) rfl (iv_w (c := 1) (d := 9) (iv_lel g86.2 (iv_w (c := 1) (d := 2147483647) (iv_ler g86.1 ivk_1 pa2) (by decide +kernel)) ivk_9) (by decide +kernel)) (by decide +kernel)) rfl (iv_add (lo := 1) (hi := 6) (iv_o (by decide +kernel) (iv_o (by decide +kernel) (iv_w (c := 0) (d := 5) (iv_ltl g88 (srd_183_80_0 hI) ivk_6) (by decide +kernel)))) ivk_1 (by decide +kernel)) (by decide +kernel)) (sf_Eu (r := 183) rfl (by decide +kernel) (sf_Eu (r := 188) rfl (by decide +kernel) (sf_Eu (r := 187) rfl (by decide +kernel) (sf_E0 _ _)))) (iv_w (c := -3) (d := 6) (iv_s (iv_add (lo := 1) (hi := 6) (iv_o (by decide +kernel) (iv_o (by decide +kernel) (iv_w (c := 0) (d := 5) (iv_ltl g88 (srd_183_80_0 hI) ivk_6) (by decide +kernel)))) ivk_1 (by decide +kernel))) (by decide +kernel)) (show (1 ≤ (a1 : Int32).toInt ∧ (a1 : Int32).toInt ≤ 9 ∧ 1 ≤ (a2 : Int32).toInt ∧ (a2 : Int32).toInt ≤ 9 → ((h.2.1 (.inl 80) 0 : Int32).toInt < 6 → ((mx_uI (mx_uI (mx_uI h (.inl 81) (Int32.toNatClampNeg (h.2.1 (.inl 80) 0)) a1) (.inl 82) (Int32.toNatClampNeg ((mx_uI h (.inl 81) (Int32.toNatClampNeg (h.2.1 (.inl 80) 0)) a1).2.1 (.inl 80) 0)) a2) (.inl 80) 0 (((mx_uI (mx_uI h (.inl 81) (Int32.toNatClampNeg (h.2.1 (.inl 80) 0)) a1) (.inl 82) (Int32.toNatClampNeg ((mx_uI h (.inl 81) (Int32.toNatClampNeg (h.2.1 (.inl 80) 0)) a1).2.1 (.inl 80) 0)) a2).2.1 (.inl 80) 0) + 1)).2.1 (.inl 80) 0 : Int32).toInt = (h.2.1 (.inl 80) 0 : Int32).toInt + 1 ∧ ((mx_uI (mx_uI (mx_uI h (.inl 81) (Int32.toNatClampNeg (h.2.1 (.inl 80) 0)) a1) (.inl 82) (Int32.toNatClampNeg ((mx_uI h (.inl 81) (Int32.toNatClampNeg (h.2.1 (.inl 80) 0)) a1).2.1 (.inl 80) 0)) a2) (.inl 80) 0 (((mx_uI (mx_uI h (.inl 81) (Int32.toNatClampNeg (h.2.1 (.inl 80) 0)) a1) (.inl 82) (Int32.toNatClampNeg ((mx_uI h (.inl 81) (Int32.toNatClampNeg (h.2.1 (.inl 80) 0)) a1).2.1 (.inl 80) 0)) a2).2.1 (.inl 80) 0) + 1)).2.1 (.inl 80) 0 : Int32).toInt = (h.2.1 (.inl 80) 0 : Int32).toInt + 1) ∧ (6 ≤ (h.2.1 (.inl 80) 0 : Int32).toInt → ((mx_uI (mx_uI (mx_uI h (.inl 81) (Int32.toNatClampNeg (h.2.1 (.inl 80) 0)) a1) (.inl 82) (Int32.toNatClampNeg ((mx_uI h (.inl 81) (Int32.toNatClampNeg (h.2.1 (.inl 80) 0)) a1).2.1 (.inl 80) 0)) a2) (.inl 80) 0 (((mx_uI (mx_uI h (.inl 81) (Int32.toNatClampNeg (h.2.1 (.inl 80) 0)) a1) (.inl 82) (Int32.toNatClampNeg ((mx_uI h (.inl 81) (Int32.toNatClampNeg (h.2.1 (.inl 80) 0)) a1).2.1 (.inl 80) 0)) a2).2.1 (.inl 80) 0) + 1)).2.1 (.inl 80) 0 : Int32).toInt = -3 ∧ ((mx_uI (mx_uI (mx_uI h (.inl 81) (Int32.toNatClampNeg (h.2.1 (.inl 80) 0)) a1) (.inl 82) (Int32.toNatClampNeg ((mx_uI h (.inl 81) (Int32.toNatClampNeg (h.2.1 (.inl 80) 0)) a1).2.1 (.inl 80) 0)) a2) (.inl 80) 0 (((mx_uI (mx_uI h (.inl 81) (Int32.toNatClampNeg (h.2.1 (.inl 80) 0)) a1) (.inl 82) (Int32.toNatClampNeg ((mx_uI h (.inl 81) (Int32.toNatClampNeg (h.2.1 (.inl 80) 0)) a1).2.1 (.inl 80) 0)) a2).2.1 (.inl 80) 0) + 1)).2.1 (.inl 80) 0 : Int32).toInt = (h.2.1 (.inl 80) 0 : Int32).toInt)) ∧ (¬ (1 ≤ (a1 : Int32).toInt ∧ (a1 : Int32).toInt ≤ 9 ∧ 1 ≤ (a2 : Int32).toInt ∧ (a2 : Int32).toInt ≤ 9) → ((mx_uI (mx_uI (mx_uI h (.inl 81) (Int32.toNatClampNeg (h.2.1 (.inl 80) 0)) a1) (.inl 82) (Int32.toNatClampNeg ((mx_uI h (.inl 81) (Int32.toNatClampNeg (h.2.1 (.inl 80) 0)) a1).2.1 (.inl 80) 0)) a2) (.inl 80) 0 (((mx_uI (mx_uI h (.inl 81) (Int32.toNatClampNeg (h.2.1 (.inl 80) 0)) a1) (.inl 82) (Int32.toNatClampNeg ((mx_uI h (.inl 81) (Int32.toNatClampNeg (h.2.1 (.inl 80) 0)) a1).2.1 (.inl 80) 0)) a2).2.1 (.inl 80) 0) + 1)).2.1 (.inl 80) 0 : Int32).toInt = -1 ∧ ((mx_uI (mx_uI (mx_uI h (.inl 81) (Int32.toNatClampNeg (h.2.1 (.inl 80) 0)) a1) (.inl 82) (Int32.toNatClampNeg ((mx_uI h (.inl 81) (Int32.toNatClampNeg (h.2.1 (.inl 80) 0)) a1).2.1 (.inl 80) 0)) a2) (.inl 80) 0 (((mx_uI (mx_uI h (.inl 81) (Int32.toNatClampNeg (h.2.1 (.inl 80) 0)) a1) (.inl 82) (Int32.toNatClampNeg ((mx_uI h (.inl 81) (Int32.toNatClampNeg (h.2.1 (.inl 80) 0)) a1).2.1 (.inl 80) 0)) a2).2.1 (.inl 80) 0) + 1)).2.1 (.inl 80) 0 : Int32).toInt = (h.2.1 (.inl 80) 0 : Int32).toInt) from (by have ⟨b92, b92_⟩ := (show sf_iv 0 5 (h.2.1 (.inl 80) 0) from (iv_w (c := 0) (d := 5) (iv_ltl g88 (srd_183_80_0 hI) ivk_6) (by decide +kernel))); have ⟨b93, b93_⟩ := (show sf_iv 1 9 a2 from (iv_w (c := 1) (d := 9) (iv_lel g86.2 (iv_w (c := 1) (d := 2147483647) (iv_ler g86.1 ivk_1 pa2) (by decide +kernel)) ivk_9) (by decide +kernel))); have ⟨b94, b94_⟩ := (show sf_iv 1 9 a1 from (iv_w (c := 1) (d := 9) (iv_lel g83.2 (iv_w (c := 1) (d := 2147483647) (iv_ler g83.1 ivk_1 pa1) (by decide +kernel)) ivk_9) (by decide +kernel))); have f95 := li_le g83.1 ivt_1 (show (a1 : Int32).toInt = (a1).toInt from rfl); have f96 := li_le g83.2 (show (a1 : Int32).toInt = (a1).toInt from rfl) ivt_9; have f97 := li_ne g85 ivt_1 ivt_0; have f98 := li_le g86.1 ivt_1 (show (a2 : Int32).toInt = (a2).toInt from rfl); have f99 := li_le g86.2 (show (a2 : Int32).toInt = (a2).toInt from rfl) ivt_9; have f100 := li_ne g87 ivt_1 ivt_0; have f101 := li_lt g88 (show (h.2.1 (.inl 80) 0 : Int32).toInt = (h.2.1 (.inl 80) 0).toInt from rfl) ivt_6; have f102 := li_lt g89 (show (h.2.1 (.inl 80) 0 : Int32).toInt = (h.2.1 (.inl 80) 0).toInt from rfl) ivt_6; have e90 := (show ((mx_uI (mx_uI (mx_uI h (.inl 81) (Int32.toNatClampNeg (h.2.1 (.inl 80) 0)) a1) (.inl 82) (Int32.toNatClampNeg ((mx_uI h (.inl 81) (Int32.toNatClampNeg (h.2.1 (.inl 80) 0)) a1).2.1 (.inl 80) 0)) a2) (.inl 80) 0 (((mx_uI (mx_uI h (.inl 81) (Int32.toNatClampNeg (h.2.1 (.inl 80) 0)) a1) (.inl 82) (Int32.toNatClampNeg ((mx_uI h (.inl 81) (Int32.toNatClampNeg (h.2.1 (.inl 80) 0)) a1).2.1 (.inl 80) 0)) a2).2.1 (.inl 80) 0) + 1)).2.1 (.inl 80) 0 : Int32).toInt = ((h.2.1 (.inl 80) 0).toInt + 1) from (li_s (li_add (iv_o (by decide +kernel) (iv_o (by decide +kernel) (iv_w (c := 0) (d := 5) (iv_ltl g88 (srd_183_80_0 hI) ivk_6) (by decide +kernel)))) ivk_1 (by decide +kernel) (li_o (by decide +kernel) (li_o (by decide +kernel) rfl)) rfl))); have e91 := (show ((mx_uI (mx_uI (mx_uI h (.inl 81) (Int32.toNatClampNeg (h.2.1 (.inl 80) 0)) a1) (.inl 82) (Int32.toNatClampNeg ((mx_uI h (.inl 81) (Int32.toNatClampNeg (h.2.1 (.inl 80) 0)) a1).2.1 (.inl 80) 0)) a2) (.inl 80) 0 (((mx_uI (mx_uI h (.inl 81) (Int32.toNatClampNeg (h.2.1 (.inl 80) 0)) a1) (.inl 82) (Int32.toNatClampNeg ((mx_uI h (.inl 81) (Int32.toNatClampNeg (h.2.1 (.inl 80) 0)) a1).2.1 (.inl 80) 0)) a2).2.1 (.inl 80) 0) + 1)).2.1 (.inl 80) 0 : Int32).toInt = ((h.2.1 (.inl 80) 0).toInt + 1) from (li_s (li_add (iv_o (by decide +kernel) (iv_o (by decide +kernel) (iv_w (c := 0) (d := 5) (iv_ltl g88 (srd_183_80_0 hI) ivk_6) (by decide +kernel)))) ivk_1 (by decide +kernel) (li_o (by decide +kernel) (li_o (by decide +kernel) rfl)) rfl))); omega)) )⟩⟩, fun g103 => absurd g88 g103⟩), fun g104 => hQ _ _ hI (sf_E0 _ _) (iv_w (c := -3) (d := 6) ivk_m3 (by decide +kernel)) (show (1 ≤ (a1 : Int32).toInt ∧ (a1 : Int32).toInt ≤ 9 ∧ 1 ≤ (a2 : Int32).toInt ∧ (a2 : Int32).toInt ≤ 9 → ((h.2.1 (.inl 80) 0 : Int32).toInt < 6 → ((-3) : Int32).toInt = (h.2.1 (.inl 80) 0 : Int32).toInt + 1 ∧ (h.2.1 (.inl 80) 0 : Int32).toInt = (h.2.1 (.inl 80) 0 : Int32).toInt + 1) ∧ (6 ≤ (h.2.1 (.inl 80) 0 : Int32).toInt → ((-3) : Int32).toInt = -3 ∧ (h.2.1 (.inl 80) 0 : Int32).toInt = (h.2.1 (.inl 80) 0 : Int32).toInt)) ∧ (¬ (1 ≤ (a1 : Int32).toInt ∧ (a1 : Int32).toInt ≤ 9 ∧ 1 ≤ (a2 : Int32).toInt ∧ (a2 : Int32).toInt ≤ 9) → ((-3) : Int32).toInt = -1 ∧ (h.2.1 (.inl 80) 0 : Int32).toInt = (h.2.1 (.inl 80) 0 : Int32).toInt) from (by have ⟨b106, b106_⟩ := (show sf_iv 6 6 (h.2.1 (.inl 80) 0) from (iv_w (c := 6) (d := 6) (iv_ler (Int32.not_lt.mp g104) ivk_6 (srd_183_80_0 hI)) (by decide +kernel))); have ⟨b107, b107_⟩ := (show sf_iv 1 9 a2 from (iv_w (c := 1) (d := 9) (iv_lel g86.2 (iv_w (c := 1) (d := 2147483647) (iv_ler g86.1 ivk_1 pa2) (by decide +kernel)) ivk_9) (by decide +kernel))); have ⟨b108, b108_⟩ := (show sf_iv 1 9 a1 from (iv_w (c := 1) (d := 9) (iv_lel g83.2 (iv_w (c := 1) (d := 2147483647) (iv_ler g83.1 ivk_1 pa1) (by decide +kernel)) ivk_9) (by decide +kernel))); have f109 := li_le g83.1 ivt_1 (show (a1 : Int32).toInt = (a1).toInt from rfl); have f110 := li_le g83.2 (show (a1 : Int32).toInt = (a1).toInt from rfl) ivt_9; have f111 := li_ne g85 ivt_1 ivt_0; have f112 := li_le g86.1 ivt_1 (show (a2 : Int32).toInt = (a2).toInt from rfl); have f113 := li_le g86.2 (show (a2 : Int32).toInt = (a2).toInt from rfl) ivt_9; have f114 := li_ne g87 ivt_1 ivt_0; have f115 := li_le (Int32.not_lt.mp g104) ivt_6 (show (h.2.1 (.inl 80) 0 : Int32).toInt = (h.2.1 (.inl 80) 0).toInt from rfl); have e105 := (show ((-3) : Int32).toInt = (-3) from rfl); omega)) ⟩, fun g116 => (iv_no (iv_eql (Decidable.not_not.mp g116) ivk_1 ivk_0) (by decide +kernel)).elim⟩) (fun g117 => hx_i ⟨fun g118 => (iv_no (iv_nel g118 ivk_0 ivk_0) (by decide +kernel)).elim, fun g119 => hQ _ _ hI (sf_E0 _ _) (iv_w (c := -3) (d := 6) ivk_m1 (by decide +kernel)) (show (1 ≤ (a1 : Int32).toInt ∧ (a1 : Int32).toInt ≤ 9 ∧ 1 ≤ (a2 : Int32).toInt ∧ (a2 : Int32).toInt ≤ 9 → ((h.2.1 (.inl 80) 0 : Int32).toInt < 6 → ((-1) : Int32).toInt = (h.2.1 (.inl 80) 0 : Int32).toInt + 1 ∧ (h.2.1 (.inl 80) 0 : Int32).toInt = (h.2.1 (.inl 80) 0 : Int32).toInt + 1) ∧ (6 ≤ (h.2.1 (.inl 80) 0 : Int32).toInt → ((-1) : Int32).toInt = -3 ∧ (h.2.1 (.inl 80) 0 : Int32).toInt = (h.2.1 (.inl 80) 0 : Int32).toInt)) ∧ (¬ (1 ≤ (a1 : Int32).toInt ∧ (a1 : Int32).toInt ≤ 9 ∧ 1 ≤ (a2 : Int32).toInt ∧ (a2 : Int32).toInt ≤ 9) → ((-1) : Int32).toInt = -1 ∧ (h.2.1 (.inl 80) 0 : Int32).toInt = (h.2.1 (.inl 80) 0 : Int32).toInt) from (by have ⟨b121, b121_⟩ := (show sf_iv (-2147483648) 2147483647 a2 from pa2); have ⟨b122, b122_⟩ := (show sf_iv 1 9 a1 from (iv_w (c := 1) (d := 9) (iv_lel g83.2 (iv_w (c := 1) (d := 2147483647) (iv_ler g83.1 ivk_1 pa1) (by decide +kernel)) ivk_9) (by decide +kernel))); have ⟨b123, b123_⟩ := (show sf_iv 0 6 (h.2.1 (.inl 80) 0) from (srd_183_80_0 hI)); have f124 := li_le g83.1 ivt_1 (show (a1 : Int32).toInt = (a1).toInt from rfl); have f125 := li_le g83.2 (show (a1 : Int32).toInt = (a1).toInt from rfl) ivt_9; have f126 := li_ne g85 ivt_1 ivt_0; have f127 := li_nw g117 (show (a2 : Int32).toInt = (a2).toInt from rfl) ivt_1 ivt_9; have f128 := li_eq (Decidable.not_not.mp g119) ivt_0 ivt_0; have e120 := (show ((-1) : Int32).toInt = (-1) from rfl); omega)) ⟩))⟩) (fun g129 => hx_i ⟨fun g130 => hQ _ _ hI (sf_E0 _ _) (iv_w (c := -3) (d := 6) ivk_m1 (by decide +kernel)) (show (1 ≤ (a1 : Int32).toInt ∧ (a1 : Int32).toInt ≤ 9 ∧ 1 ≤ (a2 : Int32).toInt ∧ (a2 : Int32).toInt ≤ 9 → ((h.2.1 (.inl 80) 0 : Int32).toInt < 6 → ((-1) : Int32).toInt = (h.2.1 (.inl 80) 0 : Int32).toInt + 1 ∧ (h.2.1 (.inl 80) 0 : Int32).toInt = (h.2.1 (.inl 80) 0 : Int32).toInt + 1) ∧ (6 ≤ (h.2.1 (.inl 80) 0 : Int32).toInt → ((-1) : Int32).toInt = -3 ∧ (h.2.1 (.inl 80) 0 : Int32).toInt = (h.2.1 (.inl 80) 0 : Int32).toInt)) ∧ (¬ (1 ≤ (a1 : Int32).toInt ∧ (a1 : Int32).toInt ≤ 9 ∧ 1 ≤ (a2 : Int32).toInt ∧ (a2 : Int32).toInt ≤ 9) → ((-1) : Int32).toInt = -1 ∧ (h.2.1 (.inl 80) 0 : Int32).toInt = (h.2.1 (.inl 80) 0 : Int32).toInt) from (by have ⟨b132, b132_⟩ := (show sf_iv (-2147483648) 2147483647 a1 from pa1); have ⟨b133, b133_⟩ := (show sf_iv 0 6 (h.2.1 (.inl 80) 0) from (srd_183_80_0 hI)); have ⟨b134, b134_⟩ := (show sf_iv (-2147483648) 2147483647 a2 from pa2); have f135 := li_nw g129 (show (a1 : Int32).toInt = (a1).toInt from rfl) ivt_1 ivt_9; have f136 := li_eq g130 ivt_0 ivt_0; have e131 := (show ((-1) : Int32).toInt = (-1) from rfl); omega)) , fun g137 => (iv_no (iv_nel g137 ivk_0 ivk_0) (by decide +kernel)).elim⟩))
set_option maxRecDepth 10000 in
theorem sf141e {E : mx_Ev} {d : Nat} {h : mx_H} {Q : Option mx_V → mx_H → Prop}   (hI : sf_I h) (hQ : ∀ x h', sf_I h' → sf_E 12259964326927110866866776217202473468949912977468817408 h h' → sf_iv 0 6 x → (x : Int32).toInt = (h.2.1 (.inl 80) 0 : Int32).toInt ∧ ((h').2.1 (.inl 80) 0 : Int32).toInt = 0 → Q (some (.inl (.int x))) h') : mx_C E (mx_fn true) d 141 [.inr (.inl 0)] h Q :=
  sg141_0 (hQ _ _ (sf_uI (r := 183) hI rfl ivk_0 (by decide +kernel)) (sf_Eu (r := 183) rfl (by decide +kernel) (sf_E0 _ _)) (srd_183_80_0 hI) (show (h.2.1 (.inl 80) 0 : Int32).toInt = (h.2.1 (.inl 80) 0 : Int32).toInt ∧ ((mx_uI h (.inl 80) 0 0).2.1 (.inl 80) 0 : Int32).toInt = 0 from (by have ⟨b139, b139_⟩ := (show sf_iv 0 6 (h.2.1 (.inl 80) 0) from (srd_183_80_0 hI)); have e138 := (show ((mx_uI h (.inl 80) 0 0).2.1 (.inl 80) 0 : Int32).toInt = 0 from (li_s rfl)); omega)) )
set_option maxRecDepth 10000 in
theorem sf151e {E : mx_Ev} {d : Nat} {h : mx_H} {Q : Option mx_V → mx_H → Prop} {a1 : Int32} {a2 : Int32} {a3 : Int32} (pa1 : sf_iv (-2147483648) 2147483647 a1) (pa2 : sf_iv (-2147483648) 2147483647 a2) (pa3 : sf_iv (-2147483648) 2147483647 a3) (hI : sf_I h) (hQ : ∀ x h', sf_I h' → sf_E 10830740992659433045228180406808920716548582325686783496759685940760083235033615113438420786597119466114255968229816143190163456 h h' → sf_iv (-14) 1 x → (0 ≤ (a1 : Int32).toInt ∧ (a1 : Int32).toInt ≤ 5 ∧ 0 ≤ (a2 : Int32).toInt ∧ (a2 : Int32).toInt ≤ 4 ∧ (a3 : Int32).toInt ≤ 60 → ((a3 : Int32).toInt < 0 → (x : Int32).toInt = -14) ∧ (0 ≤ (a3 : Int32).toInt → (x : Int32).toInt = 1)) ∧ (¬ (0 ≤ (a1 : Int32).toInt ∧ (a1 : Int32).toInt ≤ 5 ∧ 0 ≤ (a2 : Int32).toInt ∧ (a2 : Int32).toInt ≤ 4 ∧ (a3 : Int32).toInt ≤ 60) → (x : Int32).toInt = -1) → Q (some (.inl (.int x))) h') : mx_C E (mx_fn true) (d + 2) 151 [.inr (.inl 0), .inl (.int a1), .inl (.int a2), .inl (.int a3)] h Q :=
  sg151_0 (sg161_0 (sp_wi (fun g159 => hx_i ⟨Or.inr rfl, hx_i ⟨fun g160 => (iv_no (iv_eql g160 ivk_1 ivk_0) (by decide +kernel)).elim, fun g161 => (sp_wi (fun g162 => hx_i ⟨fun g163 => absurd g163 g161, fun g164 => ⟨fun g165 => ⟨fun g166 => (sf71 (iv_w (c := 0) (d := 5) (iv_lel g159.2 (iv_w (c := 0) (d := 2147483647) (iv_ler g159.1 ivk_0 pa1) (by decide +kernel)) ivk_5) (by decide +kernel)) (iv_w (c := 0) (d := 4) (iv_lel g162.2 (iv_w (c := 0) (d := 2147483647) (iv_ler g162.1 ivk_0 pa2) (by decide +kernel)) ivk_4) (by decide +kernel)) (iv_w (c := 0) (d := 60) (iv_ler g166 ivk_0 (iv_w (c := -2147483648) (d := 60) (iv_lel g165 pa3 ivk_60) (by decide +kernel))) (by decide +kernel)) hI (fun h167 I168 E169  => hx_n (hQ _ _ I168 (sf_Et (by decide +kernel) (sf_E0 _ _) E169) (iv_w (c := -14) (d := 1) ivk_1 (by decide +kernel)) (show (0 ≤ (a1 : Int32).toInt ∧ (a1 : Int32).toInt ≤ 5 ∧ 0 ≤ (a2 : Int32).toInt ∧ (a2 : Int32).toInt ≤ 4 ∧ (a3 : Int32).toInt ≤ 60 → ((a3 : Int32).toInt < 0 → (1 : Int32).toInt = -14) ∧ (0 ≤ (a3 : Int32).toInt → (1 : Int32).toInt = 1)) ∧ (¬ (0 ≤ (a1 : Int32).toInt ∧ (a1 : Int32).toInt ≤ 5 ∧ 0 ≤ (a2 : Int32).toInt ∧ (a2 : Int32).toInt ≤ 4 ∧ (a3 : Int32).toInt ≤ 60) → (1 : Int32).toInt = -1) from (by have ⟨b171, b171_⟩ := (show sf_iv 0 60 a3 from (iv_w (c := 0) (d := 60) (iv_ler g166 ivk_0 (iv_w (c := -2147483648) (d := 60) (iv_lel g165 pa3 ivk_60) (by decide +kernel))) (by decide +kernel))); have ⟨b172, b172_⟩ := (show sf_iv 0 4 a2 from (iv_w (c := 0) (d := 4) (iv_lel g162.2 (iv_w (c := 0) (d := 2147483647) (iv_ler g162.1 ivk_0 pa2) (by decide +kernel)) ivk_4) (by decide +kernel))); have ⟨b173, b173_⟩ := (show sf_iv 0 5 a1 from (iv_w (c := 0) (d := 5) (iv_lel g159.2 (iv_w (c := 0) (d := 2147483647) (iv_ler g159.1 ivk_0 pa1) (by decide +kernel)) ivk_5) (by decide +kernel))); have f174 := li_le g159.1 ivt_0 (show (a1 : Int32).toInt = (a1).toInt from rfl); have f175 := li_le g159.2 (show (a1 : Int32).toInt = (a1).toInt from rfl) ivt_5; have f176 := li_ne g161 ivt_1 ivt_0; have f177 := li_le g162.1 ivt_0 (show (a2 : Int32).toInt = (a2).toInt from rfl); have f178 := li_le g162.2 (show (a2 : Int32).toInt = (a2).toInt from rfl) ivt_4; have f179 := li_ne g164 ivt_1 ivt_0; have f180 := li_le g165 (show (a3 : Int32).toInt = (a3).toInt from rfl) ivt_60; have f181 := li_le g166 ivt_0 (show (a3 : Int32).toInt = (a3).toInt from rfl); have e170 := ivt_1; omega)) ))), fun g182 => hQ _ _ hI (sf_E0 _ _) (iv_w (c := -14) (d := 1) ivk_m14 (by decide +kernel)) (show (0 ≤ (a1 : Int32).toInt ∧ (a1 : Int32).toInt ≤ 5 ∧ 0 ≤ (a2 : Int32).toInt ∧ (a2 : Int32).toInt ≤ 4 ∧ (a3 : Int32).toInt ≤ 60 → ((a3 : Int32).toInt < 0 → ((-14) : Int32).toInt = -14) ∧ (0 ≤ (a3 : Int32).toInt → ((-14) : Int32).toInt = 1)) ∧ (¬ (0 ≤ (a1 : Int32).toInt ∧ (a1 : Int32).toInt ≤ 5 ∧ 0 ≤ (a2 : Int32).toInt ∧ (a2 : Int32).toInt ≤ 4 ∧ (a3 : Int32).toInt ≤ 60) → ((-14) : Int32).toInt = -1) from (by have ⟨b184, b184_⟩ := (show sf_iv (-2147483648) (-1) a3 from (iv_w (c := -2147483648) (d := -1) (iv_ltl (Int32.not_le.mp g182) (iv_w (c := -2147483648) (d := 60) (iv_lel g165 pa3 ivk_60) (by decide +kernel)) ivk_0) (by decide +kernel))); have ⟨b185, b185_⟩ := (show sf_iv 0 4 a2 from (iv_w (c := 0) (d := 4) (iv_lel g162.2 (iv_w (c := 0) (d := 2147483647) (iv_ler g162.1 ivk_0 pa2) (by decide +kernel)) ivk_4) (by decide +kernel))); have ⟨b186, b186_⟩ := (show sf_iv 0 5 a1 from (iv_w (c := 0) (d := 5) (iv_lel g159.2 (iv_w (c := 0) (d := 2147483647) (iv_ler g159.1 ivk_0 pa1) (by decide +kernel)) ivk_5) (by decide +kernel))); have f187 := li_le g159.1 ivt_0 (show (a1 : Int32).toInt = (a1).toInt from rfl); have f188 := li_le g159.2 (show (a1 : Int32).toInt = (a1).toInt from rfl) ivt_5; have f189 := li_ne g161 ivt_1 ivt_0; have f190 := li_le g162.1 ivt_0 (show (a2 : Int32).toInt = (a2).toInt from rfl); have f191 := li_le g162.2 (show (a2 : Int32).toInt = (a2).toInt from rfl) ivt_4; have f192 := li_ne g164 ivt_1 ivt_0; have f193 := li_le g165 (show (a3 : Int32).toInt = (a3).toInt from rfl) ivt_60; have f194 := li_lt (Int32.not_le.mp g182) (show (a3 : Int32).toInt = (a3).toInt from rfl) ivt_0; have e183 := (show ((-14) : Int32).toInt = (-14) from rfl); omega)) ⟩, fun g195 => hQ _ _ hI (sf_E0 _ _) (iv_w (c := -14) (d := 1) ivk_m1 (by decide +kernel)) (show (0 ≤ (a1 : Int32).toInt ∧ (a1 : Int32).toInt ≤ 5 ∧ 0 ≤ (a2 : Int32).toInt ∧ (a2 : Int32).toInt ≤ 4 ∧ (a3 : Int32).toInt ≤ 60 → ((a3 : Int32).toInt < 0 → ((-1) : Int32).toInt = -14) ∧ (0 ≤ (a3 : Int32).toInt → ((-1) : Int32).toInt = 1)) ∧ (¬ (0 ≤ (a1 : Int32).toInt ∧ (a1 : Int32).toInt ≤ 5 ∧ 0 ≤ (a2 : Int32).toInt ∧ (a2 : Int32).toInt ≤ 4 ∧ (a3 : Int32).toInt ≤ 60) → ((-1) : Int32).toInt = -1) from (by have ⟨b197, b197_⟩ := (show sf_iv 61 2147483647 a3 from (iv_w (c := 61) (d := 2147483647) (iv_ltr (Int32.not_le.mp g195) ivk_60 pa3) (by decide +kernel))); have ⟨b198, b198_⟩ := (show sf_iv 0 4 a2 from (iv_w (c := 0) (d := 4) (iv_lel g162.2 (iv_w (c := 0) (d := 2147483647) (iv_ler g162.1 ivk_0 pa2) (by decide +kernel)) ivk_4) (by decide +kernel))); have ⟨b199, b199_⟩ := (show sf_iv 0 5 a1 from (iv_w (c := 0) (d := 5) (iv_lel g159.2 (iv_w (c := 0) (d := 2147483647) (iv_ler g159.1 ivk_0 pa1) (by decide +kernel)) ivk_5) (by decide +kernel))); have f200 := li_le g159.1 ivt_0 (show (a1 : Int32).toInt = (a1).toInt from rfl); have f201 := li_le g159.2 (show (a1 : Int32).toInt = (a1).toInt from rfl) ivt_5; have f202 := li_ne g161 ivt_1 ivt_0; have f203 := li_le g162.1 ivt_0 (show (a2 : Int32).toInt = (a2).toInt from rfl); have f204 := li_le g162.2 (show (a2 : Int32).toInt = (a2).toInt from rfl) ivt_4; have f205 := li_ne g164 ivt_1 ivt_0; have f206 := li_lt (Int32.not_le.mp g195) ivt_60 (show (a3 : Int32).toInt = (a3).toInt from rfl); have e196 := (show ((-1) : Int32).toInt = (-1) from rfl); omega)) ⟩⟩) (fun g207 => hx_i ⟨fun g208 => hQ _ _ hI (sf_E0 _ _) (iv_w (c := -14) (d := 1) ivk_m1 (by decide +kernel)) (show (0 ≤ (a1 : Int32).toInt ∧ (a1 : Int32).toInt ≤ 5 ∧ 0 ≤ (a2 : Int32).toInt ∧ (a2 : Int32).toInt ≤ 4 ∧ (a3 : Int32).toInt ≤ 60 → ((a3 : Int32).toInt < 0 → ((-1) : Int32).toInt = -14) ∧ (0 ≤ (a3 : Int32).toInt → ((-1) : Int32).toInt = 1)) ∧ (¬ (0 ≤ (a1 : Int32).toInt ∧ (a1 : Int32).toInt ≤ 5 ∧ 0 ≤ (a2 : Int32).toInt ∧ (a2 : Int32).toInt ≤ 4 ∧ (a3 : Int32).toInt ≤ 60) → ((-1) : Int32).toInt = -1) from (by have ⟨b210, b210_⟩ := (show sf_iv (-2147483648) 2147483647 a2 from pa2); have ⟨b211, b211_⟩ := (show sf_iv 0 5 a1 from (iv_w (c := 0) (d := 5) (iv_lel g159.2 (iv_w (c := 0) (d := 2147483647) (iv_ler g159.1 ivk_0 pa1) (by decide +kernel)) ivk_5) (by decide +kernel))); have ⟨b212, b212_⟩ := (show sf_iv (-2147483648) 2147483647 a3 from pa3); have f213 := li_le g159.1 ivt_0 (show (a1 : Int32).toInt = (a1).toInt from rfl); have f214 := li_le g159.2 (show (a1 : Int32).toInt = (a1).toInt from rfl) ivt_5; have f215 := li_ne g161 ivt_1 ivt_0; have f216 := li_nw g207 (show (a2 : Int32).toInt = (a2).toInt from rfl) ivt_0 ivt_4; have f217 := li_eq g208 ivt_0 ivt_0; have e209 := (show ((-1) : Int32).toInt = (-1) from rfl); omega)) , fun g218 => (iv_no (iv_nel g218 ivk_0 ivk_0) (by decide +kernel)).elim⟩))⟩⟩) (fun g219 => hx_i ⟨Or.inl rfl, hx_i ⟨fun g220 => hQ _ _ hI (sf_E0 _ _) (iv_w (c := -14) (d := 1) ivk_m1 (by decide +kernel)) (show (0 ≤ (a1 : Int32).toInt ∧ (a1 : Int32).toInt ≤ 5 ∧ 0 ≤ (a2 : Int32).toInt ∧ (a2 : Int32).toInt ≤ 4 ∧ (a3 : Int32).toInt ≤ 60 → ((a3 : Int32).toInt < 0 → ((-1) : Int32).toInt = -14) ∧ (0 ≤ (a3 : Int32).toInt → ((-1) : Int32).toInt = 1)) ∧ (¬ (0 ≤ (a1 : Int32).toInt ∧ (a1 : Int32).toInt ≤ 5 ∧ 0 ≤ (a2 : Int32).toInt ∧ (a2 : Int32).toInt ≤ 4 ∧ (a3 : Int32).toInt ≤ 60) → ((-1) : Int32).toInt = -1) from (by have ⟨b222, b222_⟩ := (show sf_iv (-2147483648) 2147483647 a1 from pa1); have ⟨b223, b223_⟩ := (show sf_iv (-2147483648) 2147483647 a3 from pa3); have ⟨b224, b224_⟩ := (show sf_iv (-2147483648) 2147483647 a2 from pa2); have f225 := li_nw g219 (show (a1 : Int32).toInt = (a1).toInt from rfl) ivt_0 ivt_5; have f226 := li_eq g220 ivt_0 ivt_0; have e221 := (show ((-1) : Int32).toInt = (-1) from rfl); omega)) , fun g227 => (iv_no (iv_nel g227 ivk_0 ivk_0) (by decide +kernel)).elim⟩⟩)))
set_option maxRecDepth 10000 in
theorem sf248e {E : mx_Ev} {d : Nat} {h : mx_H} {Q : Option mx_V → mx_H → Prop} {a1 : Int32} (pa1 : sf_iv (-2147483648) 2147483647 a1) (hI : sf_I h) (hQ : ∀ x h', sf_I h' → sf_E 1174271291386916613945734944867488086972152038950453577033846398067699207992185149685635818186409418267033600 h h' → sf_iv (-3) 6 x → (0 ≤ (a1 : Int32).toInt ∧ (a1 : Int32).toInt ≤ 99 → ((h.2.1 (.inl 105) 65 : Int32).toInt < 6 → (x : Int32).toInt = (h.2.1 (.inl 105) 65 : Int32).toInt + 1 ∧ ((h').2.1 (.inl 105) 65 : Int32).toInt = (h.2.1 (.inl 105) 65 : Int32).toInt + 1) ∧ (6 ≤ (h.2.1 (.inl 105) 65 : Int32).toInt → (x : Int32).toInt = -3 ∧ ((h').2.1 (.inl 105) 65 : Int32).toInt = (h.2.1 (.inl 105) 65 : Int32).toInt)) ∧ (¬ (0 ≤ (a1 : Int32).toInt ∧ (a1 : Int32).toInt ≤ 99) → (x : Int32).toInt = -1 ∧ ((h').2.1 (.inl 105) 65 : Int32).toInt = (h.2.1 (.inl 105) 65 : Int32).toInt) → Q (some (.inl (.int x))) h') : mx_C E (mx_fn true) (d + 1) 248 [.inr (.inl 105), .inl (.int a1)] h Q :=
  sg248_0 (sp_ini (fun g236 => hx_i ⟨fun g237 => ⟨fun g238 => ⟨(iv_in (iv_w (c := 0) (d := 5) (iv_nel g238 (srd_289_105_65 hI) ivk_6) (by decide +kernel)) (by decide +kernel)), hQ _ _ (sf_uI (r := 289) (sf_uI (r := 359) hI rfl (iv_w (c := 0) (d := 99) (iv_lel g236.2 (iv_w (c := 0) (d := 2147483647) (iv_ler g236.1 ivk_0 pa1) (by decide +kernel)) ivk_99) (by decide +kernel)) (by decide +kernel)) rfl (iv_add (lo := 1) (hi := 6) (iv_o (by decide +kernel) (iv_w (c := 0) (d := 5) (iv_nel g238 (srd_289_105_65 hI) ivk_6) (by decide +kernel))) ivk_1 (by decide +kernel)) (by decide +kernel)) (sf_Eu (r := 289) rfl (by decide +kernel) (sf_Eu (r := 359) rfl (by decide +kernel) (sf_E0 _ _))) (iv_w (c := -3) (d := 6) (iv_s (iv_add (lo := 1) (hi := 6) (iv_o (by decide +kernel) (iv_w (c := 0) (d := 5) (iv_nel g238 (srd_289_105_65 hI) ivk_6) (by decide +kernel))) ivk_1 (by decide +kernel))) (by decide +kernel)) (show (0 ≤ (a1 : Int32).toInt ∧ (a1 : Int32).toInt ≤ 99 → ((h.2.1 (.inl 105) 65 : Int32).toInt < 6 → ((mx_uI (mx_uI h (.inl 147) (Int32.toNatClampNeg (h.2.1 (.inl 105) 65)) a1) (.inl 105) 65 (((mx_uI h (.inl 147) (Int32.toNatClampNeg (h.2.1 (.inl 105) 65)) a1).2.1 (.inl 105) 65) + 1)).2.1 (.inl 105) 65 : Int32).toInt = (h.2.1 (.inl 105) 65 : Int32).toInt + 1 ∧ ((mx_uI (mx_uI h (.inl 147) (Int32.toNatClampNeg (h.2.1 (.inl 105) 65)) a1) (.inl 105) 65 (((mx_uI h (.inl 147) (Int32.toNatClampNeg (h.2.1 (.inl 105) 65)) a1).2.1 (.inl 105) 65) + 1)).2.1 (.inl 105) 65 : Int32).toInt = (h.2.1 (.inl 105) 65 : Int32).toInt + 1) ∧ (6 ≤ (h.2.1 (.inl 105) 65 : Int32).toInt → ((mx_uI (mx_uI h (.inl 147) (Int32.toNatClampNeg (h.2.1 (.inl 105) 65)) a1) (.inl 105) 65 (((mx_uI h (.inl 147) (Int32.toNatClampNeg (h.2.1 (.inl 105) 65)) a1).2.1 (.inl 105) 65) + 1)).2.1 (.inl 105) 65 : Int32).toInt = -3 ∧ ((mx_uI (mx_uI h (.inl 147) (Int32.toNatClampNeg (h.2.1 (.inl 105) 65)) a1) (.inl 105) 65 (((mx_uI h (.inl 147) (Int32.toNatClampNeg (h.2.1 (.inl 105) 65)) a1).2.1 (.inl 105) 65) + 1)).2.1 (.inl 105) 65 : Int32).toInt = (h.2.1 (.inl 105) 65 : Int32).toInt)) ∧ (¬ (0 ≤ (a1 : Int32).toInt ∧ (a1 : Int32).toInt ≤ 99) → ((mx_uI (mx_uI h (.inl 147) (Int32.toNatClampNeg (h.2.1 (.inl 105) 65)) a1) (.inl 105) 65 (((mx_uI h (.inl 147) (Int32.toNatClampNeg (h.2.1 (.inl 105) 65)) a1).2.1 (.inl 105) 65) + 1)).2.1 (.inl 105) 65 : Int32).toInt = -1 ∧ ((mx_uI (mx_uI h (.inl 147) (Int32.toNatClampNeg (h.2.1 (.inl 105) 65)) a1) (.inl 105) 65 (((mx_uI h (.inl 147) (Int32.toNatClampNeg (h.2.1 (.inl 105) 65)) a1).2.1 (.inl 105) 65) + 1)).2.1 (.inl 105) 65 : Int32).toInt = (h.2.1 (.inl 105) 65 : Int32).toInt) from (by have ⟨b241, b241_⟩ := (show sf_iv 0 5 (h.2.1 (.inl 105) 65) from (iv_w (c := 0) (d := 5) (iv_nel g238 (srd_289_105_65 hI) ivk_6) (by decide +kernel))); have ⟨b242, b242_⟩ := (show sf_iv 0 99 a1 from (iv_w (c := 0) (d := 99) (iv_lel g236.2 (iv_w (c := 0) (d := 2147483647) (iv_ler g236.1 ivk_0 pa1) (by decide +kernel)) ivk_99) (by decide +kernel))); have f243 := li_le g236.1 ivt_0 (show (a1 : Int32).toInt = (a1).toInt from rfl); have f244 := li_le g236.2 (show (a1 : Int32).toInt = (a1).toInt from rfl) ivt_99; have f245 := li_ne g237 ivt_1 ivt_0; have f246 := li_ne g238 (show (h.2.1 (.inl 105) 65 : Int32).toInt = (h.2.1 (.inl 105) 65).toInt from rfl) ivt_6; have e239 := (show ((mx_uI (mx_uI h (.inl 147) (Int32.toNatClampNeg (h.2.1 (.inl 105) 65)) a1) (.inl 105) 65 (((mx_uI h (.inl 147) (Int32.toNatClampNeg (h.2.1 (.inl 105) 65)) a1).2.1 (.inl 105) 65) + 1)).2.1 (.inl 105) 65 : Int32).toInt = ((h.2.1 (.inl 105) 65).toInt + 1) from (li_s (li_add (iv_o (by decide +kernel) (iv_w (c := 0) (d := 5) (iv_nel g238 (srd_289_105_65 hI) ivk_6) (by decide +kernel))) ivk_1 (by decide +kernel) (li_o (by decide +kernel) rfl) rfl))); have e240 := (show ((mx_uI (mx_uI h (.inl 147) (Int32.toNatClampNeg (h.2.1 (.inl 105) 65)) a1) (.inl 105) 65 (((mx_uI h (.inl 147) (Int32.toNatClampNeg (h.2.1 (.inl 105) 65)) a1).2.1 (.inl 105) 65) + 1)).2.1 (.inl 105) 65 : Int32).toInt = ((h.2.1 (.inl 105) 65).toInt + 1) from (li_s (li_add (iv_o (by decide +kernel) (iv_w (c := 0) (d := 5) (iv_nel g238 (srd_289_105_65 hI) ivk_6) (by decide +kernel))) ivk_1 (by decide +kernel) (li_o (by decide +kernel) rfl) rfl))); omega)) ⟩, fun g247 => hQ _ _ hI (sf_E0 _ _) (iv_w (c := -3) (d := 6) ivk_m3 (by decide +kernel)) (show (0 ≤ (a1 : Int32).toInt ∧ (a1 : Int32).toInt ≤ 99 → ((h.2.1 (.inl 105) 65 : Int32).toInt < 6 → ((-3) : Int32).toInt = (h.2.1 (.inl 105) 65 : Int32).toInt + 1 ∧ (h.2.1 (.inl 105) 65 : Int32).toInt = (h.2.1 (.inl 105) 65 : Int32).toInt + 1) ∧ (6 ≤ (h.2.1 (.inl 105) 65 : Int32).toInt → ((-3) : Int32).toInt = -3 ∧ (h.2.1 (.inl 105) 65 : Int32).toInt = (h.2.1 (.inl 105) 65 : Int32).toInt)) ∧ (¬ (0 ≤ (a1 : Int32).toInt ∧ (a1 : Int32).toInt ≤ 99) → ((-3) : Int32).toInt = -1 ∧ (h.2.1 (.inl 105) 65 : Int32).toInt = (h.2.1 (.inl 105) 65 : Int32).toInt) from (by have ⟨b249, b249_⟩ := (show sf_iv 6 6 (h.2.1 (.inl 105) 65) from (iv_w (c := 6) (d := 6) (iv_eql (Decidable.not_not.mp g247) (srd_289_105_65 hI) ivk_6) (by decide +kernel))); have ⟨b250, b250_⟩ := (show sf_iv 0 99 a1 from (iv_w (c := 0) (d := 99) (iv_lel g236.2 (iv_w (c := 0) (d := 2147483647) (iv_ler g236.1 ivk_0 pa1) (by decide +kernel)) ivk_99) (by decide +kernel))); have f251 := li_le g236.1 ivt_0 (show (a1 : Int32).toInt = (a1).toInt from rfl); have f252 := li_le g236.2 (show (a1 : Int32).toInt = (a1).toInt from rfl) ivt_99; have f253 := li_ne g237 ivt_1 ivt_0; have f254 := li_eq (Decidable.not_not.mp g247) (show (h.2.1 (.inl 105) 65 : Int32).toInt = (h.2.1 (.inl 105) 65).toInt from rfl) ivt_6; have e248 := (show ((-3) : Int32).toInt = (-3) from rfl); omega)) ⟩, fun g255 => (iv_no (iv_eql (Decidable.not_not.mp g255) ivk_1 ivk_0) (by decide +kernel)).elim⟩) (fun g256 => hx_i ⟨fun g257 => (iv_no (iv_nel g257 ivk_0 ivk_0) (by decide +kernel)).elim, fun g258 => hQ _ _ hI (sf_E0 _ _) (iv_w (c := -3) (d := 6) ivk_m1 (by decide +kernel)) (show (0 ≤ (a1 : Int32).toInt ∧ (a1 : Int32).toInt ≤ 99 → ((h.2.1 (.inl 105) 65 : Int32).toInt < 6 → ((-1) : Int32).toInt = (h.2.1 (.inl 105) 65 : Int32).toInt + 1 ∧ (h.2.1 (.inl 105) 65 : Int32).toInt = (h.2.1 (.inl 105) 65 : Int32).toInt + 1) ∧ (6 ≤ (h.2.1 (.inl 105) 65 : Int32).toInt → ((-1) : Int32).toInt = -3 ∧ (h.2.1 (.inl 105) 65 : Int32).toInt = (h.2.1 (.inl 105) 65 : Int32).toInt)) ∧ (¬ (0 ≤ (a1 : Int32).toInt ∧ (a1 : Int32).toInt ≤ 99) → ((-1) : Int32).toInt = -1 ∧ (h.2.1 (.inl 105) 65 : Int32).toInt = (h.2.1 (.inl 105) 65 : Int32).toInt) from (by have ⟨b260, b260_⟩ := (show sf_iv (-2147483648) 2147483647 a1 from pa1); have ⟨b261, b261_⟩ := (show sf_iv 0 6 (h.2.1 (.inl 105) 65) from (srd_289_105_65 hI)); have f262 := li_nw g256 (show (a1 : Int32).toInt = (a1).toInt from rfl) ivt_0 ivt_99; have f263 := li_eq (Decidable.not_not.mp g258) ivt_0 ivt_0; have e259 := (show ((-1) : Int32).toInt = (-1) from rfl); omega)) ⟩))
set_option maxRecDepth 10000 in
theorem sf249e {E : mx_Ev} {d : Nat} {h : mx_H} {Q : Option mx_V → mx_H → Prop}   (hI : sf_I h) (hQ : ∀ x h', sf_I h' → sf_E 994646472819573284310764496293641680200912301594695434880927953786318994025066751066112 h h' → sf_iv 0 6 x → (x : Int32).toInt = (h.2.1 (.inl 105) 65 : Int32).toInt ∧ ((h').2.1 (.inl 105) 65 : Int32).toInt = 0 → Q (some (.inl (.int x))) h') : mx_C E (mx_fn true) d 249 [.inr (.inl 105)] h Q :=
  sg249_0 (hQ _ _ (sf_uI (r := 289) hI rfl ivk_0 (by decide +kernel)) (sf_Eu (r := 289) rfl (by decide +kernel) (sf_E0 _ _)) (srd_289_105_65 hI) (show (h.2.1 (.inl 105) 65 : Int32).toInt = (h.2.1 (.inl 105) 65 : Int32).toInt ∧ ((mx_uI h (.inl 105) 65 0).2.1 (.inl 105) 65 : Int32).toInt = 0 from (by have ⟨b265, b265_⟩ := (show sf_iv 0 6 (h.2.1 (.inl 105) 65) from (srd_289_105_65 hI)); have e264 := (show ((mx_uI h (.inl 105) 65 0).2.1 (.inl 105) 65 : Int32).toInt = 0 from (li_s rfl)); omega)) )
set_option maxRecDepth 10000 in
theorem sf254e {E : mx_Ev} {d : Nat} {h : mx_H} {Q : Option mx_V → mx_H → Prop} {a1 : Int32} (pa1 : sf_iv (-2147483648) 2147483647 a1) (hI : sf_I h) (hQ : ∀ x h', sf_I h' → sf_E 63657374260452690195888927762793067532858387302060507832379389042324415617604272068231168 h h' → sf_iv (-1) 500 x → (0 ≤ (a1 : Int32).toInt ∧ (a1 : Int32).toInt ≤ 500 → (x : Int32).toInt = (h.2.1 (.inl 105) 71 : Int32).toInt ∧ ((h').2.1 (.inl 105) 71 : Int32).toInt = (a1 : Int32).toInt) ∧ (¬ (0 ≤ (a1 : Int32).toInt ∧ (a1 : Int32).toInt ≤ 500) → (x : Int32).toInt = -1 ∧ ((h').2.1 (.inl 105) 71 : Int32).toInt = (h.2.1 (.inl 105) 71 : Int32).toInt) → Q (some (.inl (.int x))) h') : mx_C E (mx_fn true) (d + 1) 254 [.inr (.inl 105), .inl (.int a1)] h Q :=
  sg254_0 (sp_ini (fun g272 => hx_i ⟨fun g273 => hQ _ _ (sf_uI (r := 295) hI rfl (iv_w (c := 0) (d := 500) (iv_lel g272.2 (iv_w (c := 0) (d := 2147483647) (iv_ler g272.1 ivk_0 pa1) (by decide +kernel)) ivk_500) (by decide +kernel)) (by decide +kernel)) (sf_Eu (r := 295) rfl (by decide +kernel) (sf_E0 _ _)) (iv_w (c := -1) (d := 500) (srd_295_105_71 hI) (by decide +kernel)) (show (0 ≤ (a1 : Int32).toInt ∧ (a1 : Int32).toInt ≤ 500 → (h.2.1 (.inl 105) 71 : Int32).toInt = (h.2.1 (.inl 105) 71 : Int32).toInt ∧ ((mx_uI h (.inl 105) 71 a1).2.1 (.inl 105) 71 : Int32).toInt = (a1 : Int32).toInt) ∧ (¬ (0 ≤ (a1 : Int32).toInt ∧ (a1 : Int32).toInt ≤ 500) → (h.2.1 (.inl 105) 71 : Int32).toInt = -1 ∧ ((mx_uI h (.inl 105) 71 a1).2.1 (.inl 105) 71 : Int32).toInt = (h.2.1 (.inl 105) 71 : Int32).toInt) from (by have ⟨b275, b275_⟩ := (show sf_iv 0 500 a1 from (iv_w (c := 0) (d := 500) (iv_lel g272.2 (iv_w (c := 0) (d := 2147483647) (iv_ler g272.1 ivk_0 pa1) (by decide +kernel)) ivk_500) (by decide +kernel))); have ⟨b276, b276_⟩ := (show sf_iv 0 500 (h.2.1 (.inl 105) 71) from (srd_295_105_71 hI)); have f277 := li_le g272.1 ivt_0 (show (a1 : Int32).toInt = (a1).toInt from rfl); have f278 := li_le g272.2 (show (a1 : Int32).toInt = (a1).toInt from rfl) ivt_500; have f279 := li_ne g273 ivt_1 ivt_0; have e274 := (show ((mx_uI h (.inl 105) 71 a1).2.1 (.inl 105) 71 : Int32).toInt = (a1).toInt from (li_s rfl)); omega)) , fun g280 => (iv_no (iv_eql (Decidable.not_not.mp g280) ivk_1 ivk_0) (by decide +kernel)).elim⟩) (fun g281 => hx_i ⟨fun g282 => (iv_no (iv_nel g282 ivk_0 ivk_0) (by decide +kernel)).elim, fun g283 => hQ _ _ hI (sf_E0 _ _) (iv_w (c := -1) (d := 500) ivk_m1 (by decide +kernel)) (show (0 ≤ (a1 : Int32).toInt ∧ (a1 : Int32).toInt ≤ 500 → ((-1) : Int32).toInt = (h.2.1 (.inl 105) 71 : Int32).toInt ∧ (h.2.1 (.inl 105) 71 : Int32).toInt = (a1 : Int32).toInt) ∧ (¬ (0 ≤ (a1 : Int32).toInt ∧ (a1 : Int32).toInt ≤ 500) → ((-1) : Int32).toInt = -1 ∧ (h.2.1 (.inl 105) 71 : Int32).toInt = (h.2.1 (.inl 105) 71 : Int32).toInt) from (by have ⟨b285, b285_⟩ := (show sf_iv (-2147483648) 2147483647 a1 from pa1); have ⟨b286, b286_⟩ := (show sf_iv 0 500 (h.2.1 (.inl 105) 71) from (srd_295_105_71 hI)); have f287 := li_nw g281 (show (a1 : Int32).toInt = (a1).toInt from rfl) ivt_0 ivt_500; have f288 := li_eq (Decidable.not_not.mp g283) ivt_0 ivt_0; have e284 := (show ((-1) : Int32).toInt = (-1) from rfl); omega)) ⟩))
set_option maxRecDepth 10000 in
theorem sf273e {E : mx_Ev} {d : Nat} {h : mx_H} {Q : Option mx_V → mx_H → Prop} {a1 : Int32} {a2 : Int32} (pa1 : sf_iv (-2147483648) 2147483647 a1) (pa2 : sf_iv (-2147483648) 2147483647 a2) (hI : sf_I h) (hQ : ∀ x h', sf_I h' → sf_E 7214722814281215676337224998307657567140457838362759047427385818936185965233503115837844129407716554105579110400 h h' → sf_iv (-3) 6 x → (1 ≤ (a1 : Int32).toInt ∧ (a1 : Int32).toInt ≤ 9 ∧ 1 ≤ (a2 : Int32).toInt ∧ (a2 : Int32).toInt ≤ 9 → ((h.2.1 (.inl 105) 83 : Int32).toInt < 6 → (x : Int32).toInt = (h.2.1 (.inl 105) 83 : Int32).toInt + 1 ∧ ((h').2.1 (.inl 105) 83 : Int32).toInt = (h.2.1 (.inl 105) 83 : Int32).toInt + 1) ∧ (6 ≤ (h.2.1 (.inl 105) 83 : Int32).toInt → (x : Int32).toInt = -3 ∧ ((h').2.1 (.inl 105) 83 : Int32).toInt = (h.2.1 (.inl 105) 83 : Int32).toInt)) ∧ (¬ (1 ≤ (a1 : Int32).toInt ∧ (a1 : Int32).toInt ≤ 9 ∧ 1 ≤ (a2 : Int32).toInt ∧ (a2 : Int32).toInt ≤ 9) → (x : Int32).toInt = -1 ∧ ((h').2.1 (.inl 105) 83 : Int32).toInt = (h.2.1 (.inl 105) 83 : Int32).toInt) → Q (some (.inl (.int x))) h') : mx_C E (mx_fn true) (d + 1) 273 [.inr (.inl 105), .inl (.int a1), .inl (.int a2)] h Q :=
  sg273_0 (sp_ini (fun g303 => hx_i ⟨fun g304 => (iv_no (iv_eql g304 ivk_1 ivk_0) (by decide +kernel)).elim, fun g305 => (sp_ini (fun g306 => hx_i ⟨fun g307 => ⟨fun g308 => ⟨(iv_in (iv_w (c := 0) (d := 5) (iv_nel g308 (srd_307_105_83 hI) ivk_6) (by decide +kernel)) (by decide +kernel)), ⟨(iv_in (iv_o (by decide +kernel) (iv_w (c := 0) (d := 5) (iv_nel g308 (srd_307_105_83 hI) ivk_6) (by decide +kernel))) (by decide +kernel)), hQ _ _ (sf_uI (r := 307) (sf_uI (r := 371) (sf_uI (r := 370) hI rfl (iv_w (c := 1) (d := 9) (iv_lel g303.2 (iv_w (c := 1) (d := 2147483647) (iv_ler g303.1 ivk_1 pa1) (by decide +kernel)) ivk_9) (by decide +kernel)) (by decide +kernel)) rfl (iv_w (c := 1) (d := 9) (iv_lel g306.2 (iv_w (c := 1) (d := 2147483647) (iv_ler g306.1 ivk_1 pa2) (by decide +kernel)) ivk_9) (by decide +kernel)) (by decide +kernel)) rfl (iv_add (lo := 1) (hi := 6) (iv_o (by decide +kernel) (iv_o (by decide +kernel) (iv_w (c := 0) (d := 5) (iv_nel g308 (srd_307_105_83 hI) ivk_6) (by decide +kernel)))) ivk_1 (by decide +kernel)) (by decide +kernel)) (sf_Eu (r := 307) rfl (by decide +kernel) (sf_Eu (r := 371) rfl (by decide +kernel) (sf_Eu (r := 370) rfl (by decide +kernel) (sf_E0 _ _)))) (iv_w (c := -3) (d := 6) (iv_s (iv_add (lo := 1) (hi := 6) (iv_o (by decide +kernel) (iv_o (by decide +kernel) (iv_w (c := 0) (d := 5) (iv_nel g308 (srd_307_105_83 hI) ivk_6) (by decide +kernel)))) ivk_1 (by decide +kernel))) (by decide +kernel)) (show (1 ≤ (a1 : Int32).toInt ∧ (a1 : Int32).toInt ≤ 9 ∧ 1 ≤ (a2 : Int32).toInt ∧ (a2 : Int32).toInt ≤ 9 → ((h.2.1 (.inl 105) 83 : Int32).toInt < 6 → ((mx_uI (mx_uI (mx_uI h (.inl 158) (Int32.toNatClampNeg (h.2.1 (.inl 105) 83)) a1) (.inl 159) (Int32.toNatClampNeg ((mx_uI h (.inl 158) (Int32.toNatClampNeg (h.2.1 (.inl 105) 83)) a1).2.1 (.inl 105) 83)) a2) (.inl 105) 83 (((mx_uI (mx_uI h (.inl 158) (Int32.toNatClampNeg (h.2.1 (.inl 105) 83)) a1) (.inl 159) (Int32.toNatClampNeg ((mx_uI h (.inl 158) (Int32.toNatClampNeg (h.2.1 (.inl 105) 83)) a1).2.1 (.inl 105) 83)) a2).2.1 (.inl 105) 83) + 1)).2.1 (.inl 105) 83 : Int32).toInt = (h.2.1 (.inl 105) 83 : Int32).toInt + 1 ∧ ((mx_uI (mx_uI (mx_uI h (.inl 158) (Int32.toNatClampNeg (h.2.1 (.inl 105) 83)) a1) (.inl 159) (Int32.toNatClampNeg ((mx_uI h (.inl 158) (Int32.toNatClampNeg (h.2.1 (.inl 105) 83)) a1).2.1 (.inl 105) 83)) a2) (.inl 105) 83 (((mx_uI (mx_uI h (.inl 158) (Int32.toNatClampNeg (h.2.1 (.inl 105) 83)) a1) (.inl 159) (Int32.toNatClampNeg ((mx_uI h (.inl 158) (Int32.toNatClampNeg (h.2.1 (.inl 105) 83)) a1).2.1 (.inl 105) 83)) a2).2.1 (.inl 105) 83) + 1)).2.1 (.inl 105) 83 : Int32).toInt = (h.2.1 (.inl 105) 83 : Int32).toInt + 1) ∧ (6 ≤ (h.2.1 (.inl 105) 83 : Int32).toInt → ((mx_uI (mx_uI (mx_uI h (.inl 158) (Int32.toNatClampNeg (h.2.1 (.inl 105) 83)) a1) (.inl 159) (Int32.toNatClampNeg ((mx_uI h (.inl 158) (Int32.toNatClampNeg (h.2.1 (.inl 105) 83)) a1).2.1 (.inl 105) 83)) a2) (.inl 105) 83 (((mx_uI (mx_uI h (.inl 158) (Int32.toNatClampNeg (h.2.1 (.inl 105) 83)) a1) (.inl 159) (Int32.toNatClampNeg ((mx_uI h (.inl 158) (Int32.toNatClampNeg (h.2.1 (.inl 105) 83)) a1).2.1 (.inl 105) 83)) a2).2.1 (.inl 105) 83) + 1)).2.1 (.inl 105) 83 : Int32).toInt = -3 ∧ ((mx_uI (mx_uI (mx_uI h (.inl 158) (Int32.toNatClampNeg (h.2.1 (.inl 105) 83)) a1) (.inl 159) (Int32.toNatClampNeg ((mx_uI h (.inl 158) (Int32.toNatClampNeg (h.2.1 (.inl 105) 83)) a1).2.1 (.inl 105) 83)) a2) (.inl 105) 83 (((mx_uI (mx_uI h (.inl 158) (Int32.toNatClampNeg (h.2.1 (.inl 105) 83)) a1) (.inl 159) (Int32.toNatClampNeg ((mx_uI h (.inl 158) (Int32.toNatClampNeg (h.2.1 (.inl 105) 83)) a1).2.1 (.inl 105) 83)) a2).2.1 (.inl 105) 83) + 1)).2.1 (.inl 105) 83 : Int32).toInt = (h.2.1 (.inl 105) 83 : Int32).toInt)) ∧ (¬ (1 ≤ (a1 : Int32).toInt ∧ (a1 : Int32).toInt ≤ 9 ∧ 1 ≤ (a2 : Int32).toInt ∧ (a2 : Int32).toInt ≤ 9) → ((mx_uI (mx_uI (mx_uI h (.inl 158) (Int32.toNatClampNeg (h.2.1 (.inl 105) 83)) a1) (.inl 159) (Int32.toNatClampNeg ((mx_uI h (.inl 158) (Int32.toNatClampNeg (h.2.1 (.inl 105) 83)) a1).2.1 (.inl 105) 83)) a2) (.inl 105) 83 (((mx_uI (mx_uI h (.inl 158) (Int32.toNatClampNeg (h.2.1 (.inl 105) 83)) a1) (.inl 159) (Int32.toNatClampNeg ((mx_uI h (.inl 158) (Int32.toNatClampNeg (h.2.1 (.inl 105) 83)) a1).2.1 (.inl 105) 83)) a2).2.1 (.inl 105) 83) + 1)).2.1 (.inl 105) 83 : Int32).toInt = -1 ∧ ((mx_uI (mx_uI (mx_uI h (.inl 158) (Int32.toNatClampNeg (h.2.1 (.inl 105) 83)) a1) (.inl 159) (Int32.toNatClampNeg ((mx_uI h (.inl 158) (Int32.toNatClampNeg (h.2.1 (.inl 105) 83)) a1).2.1 (.inl 105) 83)) a2) (.inl 105) 83 (((mx_uI (mx_uI h (.inl 158) (Int32.toNatClampNeg (h.2.1 (.inl 105) 83)) a1) (.inl 159) (Int32.toNatClampNeg ((mx_uI h (.inl 158) (Int32.toNatClampNeg (h.2.1 (.inl 105) 83)) a1).2.1 (.inl 105) 83)) a2).2.1 (.inl 105) 83) + 1)).2.1 (.inl 105) 83 : Int32).toInt = (h.2.1 (.inl 105) 83 : Int32).toInt) from (by have ⟨b311, b311_⟩ := (show sf_iv 0 5 (h.2.1 (.inl 105) 83) from (iv_w (c := 0) (d := 5) (iv_nel g308 (srd_307_105_83 hI) ivk_6) (by decide +kernel))); have ⟨b312, b312_⟩ := (show sf_iv 1 9 a2 from (iv_w (c := 1) (d := 9) (iv_lel g306.2 (iv_w (c := 1) (d := 2147483647) (iv_ler g306.1 ivk_1 pa2) (by decide +kernel)) ivk_9) (by decide +kernel))); have ⟨b313, b313_⟩ := (show sf_iv 1 9 a1 from (iv_w (c := 1) (d := 9) (iv_lel g303.2 (iv_w (c := 1) (d := 2147483647) (iv_ler g303.1 ivk_1 pa1) (by decide +kernel)) ivk_9) (by decide +kernel))); have f314 := li_le g303.1 ivt_1 (show (a1 : Int32).toInt = (a1).toInt from rfl); have f315 := li_le g303.2 (show (a1 : Int32).toInt = (a1).toInt from rfl) ivt_9; have f316 := li_ne g305 ivt_1 ivt_0; have f317 := li_le g306.1 ivt_1 (show (a2 : Int32).toInt = (a2).toInt from rfl); have f318 := li_le g306.2 (show (a2 : Int32).toInt = (a2).toInt from rfl) ivt_9; have f319 := li_ne g307 ivt_1 ivt_0; have f320 := li_ne g308 (show (h.2.1 (.inl 105) 83 : Int32).toInt = (h.2.1 (.inl 105) 83).toInt from rfl) ivt_6; have e309 := (show ((mx_uI (mx_uI (mx_uI h (.inl 158) (Int32.toNatClampNeg (h.2.1 (.inl 105) 83)) a1) (.inl 159) (Int32.toNatClampNeg ((mx_uI h (.inl 158) (Int32.toNatClampNeg (h.2.1 (.inl 105) 83)) a1).2.1 (.inl 105) 83)) a2) (.inl 105) 83 (((mx_uI (mx_uI h (.inl 158) (Int32.toNatClampNeg (h.2.1 (.inl 105) 83)) a1) (.inl 159) (Int32.toNatClampNeg ((mx_uI h (.inl 158) (Int32.toNatClampNeg (h.2.1 (.inl 105) 83)) a1).2.1 (.inl 105) 83)) a2).2.1 (.inl 105) 83) + 1)).2.1 (.inl 105) 83 : Int32).toInt = ((h.2.1 (.inl 105) 83).toInt + 1) from (li_s (li_add (iv_o (by decide +kernel) (iv_o (by decide +kernel) (iv_w (c := 0) (d := 5) (iv_nel g308 (srd_307_105_83 hI) ivk_6) (by decide +kernel)))) ivk_1 (by decide +kernel) (li_o (by decide +kernel) (li_o (by decide +kernel) rfl)) rfl))); have e310 := (show ((mx_uI (mx_uI (mx_uI h (.inl 158) (Int32.toNatClampNeg (h.2.1 (.inl 105) 83)) a1) (.inl 159) (Int32.toNatClampNeg ((mx_uI h (.inl 158) (Int32.toNatClampNeg (h.2.1 (.inl 105) 83)) a1).2.1 (.inl 105) 83)) a2) (.inl 105) 83 (((mx_uI (mx_uI h (.inl 158) (Int32.toNatClampNeg (h.2.1 (.inl 105) 83)) a1) (.inl 159) (Int32.toNatClampNeg ((mx_uI h (.inl 158) (Int32.toNatClampNeg (h.2.1 (.inl 105) 83)) a1).2.1 (.inl 105) 83)) a2).2.1 (.inl 105) 83) + 1)).2.1 (.inl 105) 83 : Int32).toInt = ((h.2.1 (.inl 105) 83).toInt + 1) from (li_s (li_add (iv_o (by decide +kernel) (iv_o (by decide +kernel) (iv_w (c := 0) (d := 5) (iv_nel g308 (srd_307_105_83 hI) ivk_6) (by decide +kernel)))) ivk_1 (by decide +kernel) (li_o (by decide +kernel) (li_o (by decide +kernel) rfl)) rfl))); omega)) ⟩⟩, fun g321 => hQ _ _ hI (sf_E0 _ _) (iv_w (c := -3) (d := 6) ivk_m3 (by decide +kernel)) (show (1 ≤ (a1 : Int32).toInt ∧ (a1 : Int32).toInt ≤ 9 ∧ 1 ≤ (a2 : Int32).toInt ∧ (a2 : Int32).toInt ≤ 9 → ((h.2.1 (.inl 105) 83 : Int32).toInt < 6 → ((-3) : Int32).toInt = (h.2.1 (.inl 105) 83 : Int32).toInt + 1 ∧ (h.2.1 (.inl 105) 83 : Int32).toInt = (h.2.1 (.inl 105) 83 : Int32).toInt + 1) ∧ (6 ≤ (h.2.1 (.inl 105) 83 : Int32).toInt → ((-3) : Int32).toInt = -3 ∧ (h.2.1 (.inl 105) 83 : Int32).toInt = (h.2.1 (.inl 105) 83 : Int32).toInt)) ∧ (¬ (1 ≤ (a1 : Int32).toInt ∧ (a1 : Int32).toInt ≤ 9 ∧ 1 ≤ (a2 : Int32).toInt ∧ (a2 : Int32).toInt ≤ 9) → ((-3) : Int32).toInt = -1 ∧ (h.2.1 (.inl 105) 83 : Int32).toInt = (h.2.1 (.inl 105) 83 : Int32).toInt) from (by have ⟨b323, b323_⟩ := (show sf_iv 6 6 (h.2.1 (.inl 105) 83) from (iv_w (c := 6) (d := 6) (iv_eql (Decidable.not_not.mp g321) (srd_307_105_83 hI) ivk_6) (by decide +kernel))); have ⟨b324, b324_⟩ := (show sf_iv 1 9 a2 from (iv_w (c := 1) (d := 9) (iv_lel g306.2 (iv_w (c := 1) (d := 2147483647) (iv_ler g306.1 ivk_1 pa2) (by decide +kernel)) ivk_9) (by decide +kernel))); have ⟨b325, b325_⟩ := (show sf_iv 1 9 a1 from (iv_w (c := 1) (d := 9) (iv_lel g303.2 (iv_w (c := 1) (d := 2147483647) (iv_ler g303.1 ivk_1 pa1) (by decide +kernel)) ivk_9) (by decide +kernel))); have f326 := li_le g303.1 ivt_1 (show (a1 : Int32).toInt = (a1).toInt from rfl); have f327 := li_le g303.2 (show (a1 : Int32).toInt = (a1).toInt from rfl) ivt_9; have f328 := li_ne g305 ivt_1 ivt_0; have f329 := li_le g306.1 ivt_1 (show (a2 : Int32).toInt = (a2).toInt from rfl); have f330 := li_le g306.2 (show (a2 : Int32).toInt = (a2).toInt from rfl) ivt_9; have f331 := li_ne g307 ivt_1 ivt_0; have f332 := li_eq (Decidable.not_not.mp g321) (show (h.2.1 (.inl 105) 83 : Int32).toInt = (h.2.1 (.inl 105) 83).toInt from rfl) ivt_6; have e322 := (show ((-3) : Int32).toInt = (-3) from rfl); omega)) ⟩, fun g333 => (iv_no (iv_eql (Decidable.not_not.mp g333) ivk_1 ivk_0) (by decide +kernel)).elim⟩) (fun g334 => hx_i ⟨fun g335 => (iv_no (iv_nel g335 ivk_0 ivk_0) (by decide +kernel)).elim, fun g336 => hQ _ _ hI (sf_E0 _ _) (iv_w (c := -3) (d := 6) ivk_m1 (by decide +kernel)) (show (1 ≤ (a1 : Int32).toInt ∧ (a1 : Int32).toInt ≤ 9 ∧ 1 ≤ (a2 : Int32).toInt ∧ (a2 : Int32).toInt ≤ 9 → ((h.2.1 (.inl 105) 83 : Int32).toInt < 6 → ((-1) : Int32).toInt = (h.2.1 (.inl 105) 83 : Int32).toInt + 1 ∧ (h.2.1 (.inl 105) 83 : Int32).toInt = (h.2.1 (.inl 105) 83 : Int32).toInt + 1) ∧ (6 ≤ (h.2.1 (.inl 105) 83 : Int32).toInt → ((-1) : Int32).toInt = -3 ∧ (h.2.1 (.inl 105) 83 : Int32).toInt = (h.2.1 (.inl 105) 83 : Int32).toInt)) ∧ (¬ (1 ≤ (a1 : Int32).toInt ∧ (a1 : Int32).toInt ≤ 9 ∧ 1 ≤ (a2 : Int32).toInt ∧ (a2 : Int32).toInt ≤ 9) → ((-1) : Int32).toInt = -1 ∧ (h.2.1 (.inl 105) 83 : Int32).toInt = (h.2.1 (.inl 105) 83 : Int32).toInt) from (by have ⟨b338, b338_⟩ := (show sf_iv (-2147483648) 2147483647 a2 from pa2); have ⟨b339, b339_⟩ := (show sf_iv 1 9 a1 from (iv_w (c := 1) (d := 9) (iv_lel g303.2 (iv_w (c := 1) (d := 2147483647) (iv_ler g303.1 ivk_1 pa1) (by decide +kernel)) ivk_9) (by decide +kernel))); have ⟨b340, b340_⟩ := (show sf_iv 0 6 (h.2.1 (.inl 105) 83) from (srd_307_105_83 hI)); have f341 := li_le g303.1 ivt_1 (show (a1 : Int32).toInt = (a1).toInt from rfl); have f342 := li_le g303.2 (show (a1 : Int32).toInt = (a1).toInt from rfl) ivt_9; have f343 := li_ne g305 ivt_1 ivt_0; have f344 := li_nw g334 (show (a2 : Int32).toInt = (a2).toInt from rfl) ivt_1 ivt_9; have f345 := li_eq (Decidable.not_not.mp g336) ivt_0 ivt_0; have e337 := (show ((-1) : Int32).toInt = (-1) from rfl); omega)) ⟩))⟩) (fun g346 => hx_i ⟨fun g347 => hQ _ _ hI (sf_E0 _ _) (iv_w (c := -3) (d := 6) ivk_m1 (by decide +kernel)) (show (1 ≤ (a1 : Int32).toInt ∧ (a1 : Int32).toInt ≤ 9 ∧ 1 ≤ (a2 : Int32).toInt ∧ (a2 : Int32).toInt ≤ 9 → ((h.2.1 (.inl 105) 83 : Int32).toInt < 6 → ((-1) : Int32).toInt = (h.2.1 (.inl 105) 83 : Int32).toInt + 1 ∧ (h.2.1 (.inl 105) 83 : Int32).toInt = (h.2.1 (.inl 105) 83 : Int32).toInt + 1) ∧ (6 ≤ (h.2.1 (.inl 105) 83 : Int32).toInt → ((-1) : Int32).toInt = -3 ∧ (h.2.1 (.inl 105) 83 : Int32).toInt = (h.2.1 (.inl 105) 83 : Int32).toInt)) ∧ (¬ (1 ≤ (a1 : Int32).toInt ∧ (a1 : Int32).toInt ≤ 9 ∧ 1 ≤ (a2 : Int32).toInt ∧ (a2 : Int32).toInt ≤ 9) → ((-1) : Int32).toInt = -1 ∧ (h.2.1 (.inl 105) 83 : Int32).toInt = (h.2.1 (.inl 105) 83 : Int32).toInt) from (by have ⟨b349, b349_⟩ := (show sf_iv (-2147483648) 2147483647 a1 from pa1); have ⟨b350, b350_⟩ := (show sf_iv 0 6 (h.2.1 (.inl 105) 83) from (srd_307_105_83 hI)); have ⟨b351, b351_⟩ := (show sf_iv (-2147483648) 2147483647 a2 from pa2); have f352 := li_nw g346 (show (a1 : Int32).toInt = (a1).toInt from rfl) ivt_1 ivt_9; have f353 := li_eq g347 ivt_0 ivt_0; have e348 := (show ((-1) : Int32).toInt = (-1) from rfl); omega)) , fun g354 => (iv_no (iv_nel g354 ivk_0 ivk_0) (by decide +kernel)).elim⟩))
set_option maxRecDepth 10000 in
theorem sf274e {E : mx_Ev} {d : Nat} {h : mx_H} {Q : Option mx_V → mx_H → Prop}   (hI : sf_I h) (hQ : ∀ x h', sf_I h' → sf_E 260740604970814219042361048116400404614587954389239840081425977517360806369707098391474864128 h h' → sf_iv 0 6 x → (x : Int32).toInt = (h.2.1 (.inl 105) 83 : Int32).toInt ∧ ((h').2.1 (.inl 105) 83 : Int32).toInt = 0 → Q (some (.inl (.int x))) h') : mx_C E (mx_fn true) d 274 [.inr (.inl 105)] h Q :=
  sg274_0 (hQ _ _ (sf_uI (r := 307) hI rfl ivk_0 (by decide +kernel)) (sf_Eu (r := 307) rfl (by decide +kernel) (sf_E0 _ _)) (srd_307_105_83 hI) (show (h.2.1 (.inl 105) 83 : Int32).toInt = (h.2.1 (.inl 105) 83 : Int32).toInt ∧ ((mx_uI h (.inl 105) 83 0).2.1 (.inl 105) 83 : Int32).toInt = 0 from (by have ⟨b356, b356_⟩ := (show sf_iv 0 6 (h.2.1 (.inl 105) 83) from (srd_307_105_83 hI)); have e355 := (show ((mx_uI h (.inl 105) 83 0).2.1 (.inl 105) 83 : Int32).toInt = 0 from (li_s rfl)); omega)) )
set_option maxRecDepth 10000 in
theorem sf302e_54 {E : mx_Ev} {d : Nat} {Q : Option mx_V → mx_H → Prop} {h0 : mx_H} {a1 : Int32} {a2 : Int32} {a3 : Int32} (hQ : ∀ x h', sf_I h' → sf_E 538699303466330770480377501369150969991324560338394778663355573886171977344688426327929421453504706026653117054976 h0 h' → sf_iv (-14) 1 x → (0 ≤ (a1 : Int32).toInt ∧ (a1 : Int32).toInt ≤ 5 ∧ 0 ≤ (a2 : Int32).toInt ∧ (a2 : Int32).toInt ≤ 4 ∧ (a3 : Int32).toInt ≤ 60 → ((a3 : Int32).toInt < 0 → (x : Int32).toInt = -14) ∧ (0 ≤ (a3 : Int32).toInt → (x : Int32).toInt = 1)) ∧ (¬ (0 ≤ (a1 : Int32).toInt ∧ (a1 : Int32).toInt ≤ 5 ∧ 0 ≤ (a2 : Int32).toInt ∧ (a2 : Int32).toInt ≤ 4 ∧ (a3 : Int32).toInt ≤ 60) → (x : Int32).toInt = -1) → Q (some (.inl (.int x))) h') : ∀ (n : Nat) {a4 : Int32} {h : mx_H}, (2147483647 - a4.toInt).toNat < n → sf_iv 0 5 a1 → sf_iv 0 360 a4 → 0 ≤ (a3 : Int32).toInt ∧ (a3 : Int32).toInt ≤ 60 ∧ 0 ≤ (a1 : Int32).toInt ∧ (a1 : Int32).toInt ≤ 5 ∧ 0 ≤ (a2 : Int32).toInt ∧ (a2 : Int32).toInt ≤ 4 → sf_I h → sf_E 538699303466330770480377501369150969991324560338394778663355573886171977344688426327929421453504706026653117054976 h0 h → mx_T E (mx_fn true) (d + 2) 0 0 302 54 [(0, .inr (.inl 105)), (1, .inl (.int a1)), (4, .inl (.int a4))] [] h Q
  | 0, _, _, hm, _, _, _, _, _ => absurd hm (Nat.not_lt_zero _)
  | n + 1, a4, h, hm, pa1, pa4, r0, hI, hE => sg302_54 ⟨fun g376 => hQ _ _ hI hE (iv_w (c := -14) (d := 1) ivk_1 (by decide +kernel)) (show (0 ≤ (a1 : Int32).toInt ∧ (a1 : Int32).toInt ≤ 5 ∧ 0 ≤ (a2 : Int32).toInt ∧ (a2 : Int32).toInt ≤ 4 ∧ (a3 : Int32).toInt ≤ 60 → ((a3 : Int32).toInt < 0 → (1 : Int32).toInt = -14) ∧ (0 ≤ (a3 : Int32).toInt → (1 : Int32).toInt = 1)) ∧ (¬ (0 ≤ (a1 : Int32).toInt ∧ (a1 : Int32).toInt ≤ 5 ∧ 0 ≤ (a2 : Int32).toInt ∧ (a2 : Int32).toInt ≤ 4 ∧ (a3 : Int32).toInt ≤ 60) → (1 : Int32).toInt = -1) from (by have ⟨b378, b378_⟩ := (show sf_iv 60 360 a4 from (iv_w (c := 60) (d := 360) (iv_ler g376 (iv_add (lo := 60) (hi := 360) (iv_mul (lo := 0) (hi := 300) (iv_w (c := 0) (d := 60) ivk_60 (by decide +kernel)) pa1 (by decide +kernel)) ivk_60 (by decide +kernel)) pa4) (by decide +kernel))); have ⟨b379, b379_⟩ := (show sf_iv 0 5 a1 from pa1); have ⟨b380, b380_⟩ := (show sf_iv (-2147483648) 2147483647 a3 from (iv_rng _)); have ⟨b381, b381_⟩ := (show sf_iv (-2147483648) 2147483647 a2 from (iv_rng _)); have f382 := r0; have f383 := li_le g376 (show ((60 * a1) + 60 : Int32).toInt = ((60 * (a1).toInt) + 60) from (li_add (iv_mul (lo := 0) (hi := 300) (iv_w (c := 0) (d := 60) ivk_60 (by decide +kernel)) pa1 (by decide +kernel)) ivk_60 (by decide +kernel) (li_mul (iv_w (c := 0) (d := 60) ivk_60 (by decide +kernel)) pa1 (by decide +kernel) rfl rfl) rfl)) (show (a4 : Int32).toInt = (a4).toInt from rfl); have e377 := ivt_1; omega)) , fun g384 => ⟨(iv_in (iv_w (c := 0) (d := 359) (iv_ltl (Int32.not_le.mp g384) pa4 (iv_add (lo := 60) (hi := 360) (iv_mul (lo := 0) (hi := 300) (iv_w (c := 0) (d := 60) ivk_60 (by decide +kernel)) pa1 (by decide +kernel)) ivk_60 (by decide +kernel))) (by decide +kernel)) (by decide +kernel)), sf302e_54 hQ  n (iv_up hm (iv_w (c := 0) (d := 359) (iv_ltl (Int32.not_le.mp g384) pa4 (iv_add (lo := 60) (hi := 360) (iv_mul (lo := 0) (hi := 300) (iv_w (c := 0) (d := 60) ivk_60 (by decide +kernel)) pa1 (by decide +kernel)) ivk_60 (by decide +kernel))) (by decide +kernel)) (by decide +kernel))  pa1 (iv_w (c := 0) (d := 360) (iv_add (lo := 1) (hi := 360) (iv_w (c := 0) (d := 359) (iv_ltl (Int32.not_le.mp g384) pa4 (iv_add (lo := 60) (hi := 360) (iv_mul (lo := 0) (hi := 300) (iv_w (c := 0) (d := 60) ivk_60 (by decide +kernel)) pa1 (by decide +kernel)) ivk_60 (by decide +kernel))) (by decide +kernel)) ivk_1 (by decide +kernel)) (by decide +kernel)) (show 0 ≤ (a3 : Int32).toInt ∧ (a3 : Int32).toInt ≤ 60 ∧ 0 ≤ (a1 : Int32).toInt ∧ (a1 : Int32).toInt ≤ 5 ∧ 0 ≤ (a2 : Int32).toInt ∧ (a2 : Int32).toInt ≤ 4 from (by have ⟨b386, b386_⟩ := (show sf_iv 0 5 a1 from pa1); have ⟨b387, b387_⟩ := (show sf_iv 0 359 a4 from (iv_w (c := 0) (d := 359) (iv_ltl (Int32.not_le.mp g384) pa4 (iv_add (lo := 60) (hi := 360) (iv_mul (lo := 0) (hi := 300) (iv_w (c := 0) (d := 60) ivk_60 (by decide +kernel)) pa1 (by decide +kernel)) ivk_60 (by decide +kernel))) (by decide +kernel))); have ⟨b388, b388_⟩ := (show sf_iv (-2147483648) 2147483647 a3 from (iv_rng _)); have ⟨b389, b389_⟩ := (show sf_iv (-2147483648) 2147483647 a2 from (iv_rng _)); have f390 := r0; have f391 := li_lt (Int32.not_le.mp g384) (show (a4 : Int32).toInt = (a4).toInt from rfl) (show ((60 * a1) + 60 : Int32).toInt = ((60 * (a1).toInt) + 60) from (li_add (iv_mul (lo := 0) (hi := 300) (iv_w (c := 0) (d := 60) ivk_60 (by decide +kernel)) pa1 (by decide +kernel)) ivk_60 (by decide +kernel) (li_mul (iv_w (c := 0) (d := 60) ivk_60 (by decide +kernel)) pa1 (by decide +kernel) rfl rfl) rfl)); omega)) (sf_uL hI) (sf_EL hE)⟩⟩
set_option maxRecDepth 10000 in
theorem sf302e {E : mx_Ev} {d : Nat} {h : mx_H} {Q : Option mx_V → mx_H → Prop} {a1 : Int32} {a2 : Int32} {a3 : Int32} (pa1 : sf_iv (-2147483648) 2147483647 a1) (pa2 : sf_iv (-2147483648) 2147483647 a2) (pa3 : sf_iv (-2147483648) 2147483647 a3) (hI : sf_I h) (hQ : ∀ x h', sf_I h' → sf_E 538699303466330770480377501369150969991324560338394778663355573886171977344688426327929421453504706026653117054976 h h' → sf_iv (-14) 1 x → (0 ≤ (a1 : Int32).toInt ∧ (a1 : Int32).toInt ≤ 5 ∧ 0 ≤ (a2 : Int32).toInt ∧ (a2 : Int32).toInt ≤ 4 ∧ (a3 : Int32).toInt ≤ 60 → ((a3 : Int32).toInt < 0 → (x : Int32).toInt = -14) ∧ (0 ≤ (a3 : Int32).toInt → (x : Int32).toInt = 1)) ∧ (¬ (0 ≤ (a1 : Int32).toInt ∧ (a1 : Int32).toInt ≤ 5 ∧ 0 ≤ (a2 : Int32).toInt ∧ (a2 : Int32).toInt ≤ 4 ∧ (a3 : Int32).toInt ≤ 60) → (x : Int32).toInt = -1) → Q (some (.inl (.int x))) h') : mx_C E (mx_fn true) (d + 2) 302 [.inr (.inl 105), .inl (.int a1), .inl (.int a2), .inl (.int a3)] h Q :=
  sg302_0 (sg300_0 (sp_ini (fun g392 => hx_i ⟨Or.inr rfl, hx_i ⟨fun g393 => (iv_no (iv_eql g393 ivk_1 ivk_0) (by decide +kernel)).elim, fun g394 => (sp_ini (fun g395 => hx_i ⟨fun g396 => absurd g396 g394, fun g397 => ⟨fun g398 => ⟨fun g399 => ⟨(iv_in (iv_w (c := 0) (d := 5) (iv_lel g392.2 (iv_w (c := 0) (d := 2147483647) (iv_ler g392.1 ivk_0 pa1) (by decide +kernel)) ivk_5) (by decide +kernel)) (by decide +kernel)), ⟨(iv_in (iv_w (c := 0) (d := 5) (iv_lel g392.2 (iv_w (c := 0) (d := 2147483647) (iv_ler g392.1 ivk_0 pa1) (by decide +kernel)) ivk_5) (by decide +kernel)) (by decide +kernel)), sf302e_54 hQ  _ (Nat.lt_succ_self _)  (iv_w (c := 0) (d := 5) (iv_lel g392.2 (iv_w (c := 0) (d := 2147483647) (iv_ler g392.1 ivk_0 pa1) (by decide +kernel)) ivk_5) (by decide +kernel)) (iv_w (c := 0) (d := 360) (iv_mul (lo := 0) (hi := 300) (iv_w (c := 0) (d := 60) ivk_60 (by decide +kernel)) (iv_w (c := 0) (d := 5) (iv_lel g392.2 (iv_w (c := 0) (d := 2147483647) (iv_ler g392.1 ivk_0 pa1) (by decide +kernel)) ivk_5) (by decide +kernel)) (by decide +kernel)) (by decide +kernel)) (show 0 ≤ (a3 : Int32).toInt ∧ (a3 : Int32).toInt ≤ 60 ∧ 0 ≤ (a1 : Int32).toInt ∧ (a1 : Int32).toInt ≤ 5 ∧ 0 ≤ (a2 : Int32).toInt ∧ (a2 : Int32).toInt ≤ 4 from (by have ⟨b400, b400_⟩ := (show sf_iv 0 60 a3 from (iv_w (c := 0) (d := 60) (iv_ler g399 ivk_0 (iv_w (c := -2147483648) (d := 60) (iv_lel g398 pa3 ivk_60) (by decide +kernel))) (by decide +kernel))); have ⟨b401, b401_⟩ := (show sf_iv 0 4 a2 from (iv_w (c := 0) (d := 4) (iv_lel g395.2 (iv_w (c := 0) (d := 2147483647) (iv_ler g395.1 ivk_0 pa2) (by decide +kernel)) ivk_4) (by decide +kernel))); have ⟨b402, b402_⟩ := (show sf_iv 0 5 a1 from (iv_w (c := 0) (d := 5) (iv_lel g392.2 (iv_w (c := 0) (d := 2147483647) (iv_ler g392.1 ivk_0 pa1) (by decide +kernel)) ivk_5) (by decide +kernel))); have f403 := li_le g392.1 ivt_0 (show (a1 : Int32).toInt = (a1).toInt from rfl); have f404 := li_le g392.2 (show (a1 : Int32).toInt = (a1).toInt from rfl) ivt_5; have f405 := li_ne g394 ivt_1 ivt_0; have f406 := li_le g395.1 ivt_0 (show (a2 : Int32).toInt = (a2).toInt from rfl); have f407 := li_le g395.2 (show (a2 : Int32).toInt = (a2).toInt from rfl) ivt_4; have f408 := li_ne g397 ivt_1 ivt_0; have f409 := li_le g398 (show (a3 : Int32).toInt = (a3).toInt from rfl) ivt_60; have f410 := li_le g399 ivt_0 (show (a3 : Int32).toInt = (a3).toInt from rfl); omega)) (sf_uI (r := 376) (sf_uI (r := 375) hI rfl (iv_sub (lo := -6) (hi := -2) ivk_m2 (iv_w (c := 0) (d := 4) (iv_lel g395.2 (iv_w (c := 0) (d := 2147483647) (iv_ler g395.1 ivk_0 pa2) (by decide +kernel)) ivk_4) (by decide +kernel)) (by decide +kernel)) (by decide +kernel)) rfl (iv_w (c := 0) (d := 60) (iv_ler g399 ivk_0 (iv_w (c := -2147483648) (d := 60) (iv_lel g398 pa3 ivk_60) (by decide +kernel))) (by decide +kernel)) (by decide +kernel)) (sf_Eu (r := 376) rfl (by decide +kernel) (sf_Eu (r := 375) rfl (by decide +kernel) (sf_E0 _ _)))⟩⟩, fun g411 => hQ _ _ hI (sf_E0 _ _) (iv_w (c := -14) (d := 1) ivk_m14 (by decide +kernel)) (show (0 ≤ (a1 : Int32).toInt ∧ (a1 : Int32).toInt ≤ 5 ∧ 0 ≤ (a2 : Int32).toInt ∧ (a2 : Int32).toInt ≤ 4 ∧ (a3 : Int32).toInt ≤ 60 → ((a3 : Int32).toInt < 0 → ((-14) : Int32).toInt = -14) ∧ (0 ≤ (a3 : Int32).toInt → ((-14) : Int32).toInt = 1)) ∧ (¬ (0 ≤ (a1 : Int32).toInt ∧ (a1 : Int32).toInt ≤ 5 ∧ 0 ≤ (a2 : Int32).toInt ∧ (a2 : Int32).toInt ≤ 4 ∧ (a3 : Int32).toInt ≤ 60) → ((-14) : Int32).toInt = -1) from (by have ⟨b413, b413_⟩ := (show sf_iv (-2147483648) (-1) a3 from (iv_w (c := -2147483648) (d := -1) (iv_ltl (Int32.not_le.mp g411) (iv_w (c := -2147483648) (d := 60) (iv_lel g398 pa3 ivk_60) (by decide +kernel)) ivk_0) (by decide +kernel))); have ⟨b414, b414_⟩ := (show sf_iv 0 4 a2 from (iv_w (c := 0) (d := 4) (iv_lel g395.2 (iv_w (c := 0) (d := 2147483647) (iv_ler g395.1 ivk_0 pa2) (by decide +kernel)) ivk_4) (by decide +kernel))); have ⟨b415, b415_⟩ := (show sf_iv 0 5 a1 from (iv_w (c := 0) (d := 5) (iv_lel g392.2 (iv_w (c := 0) (d := 2147483647) (iv_ler g392.1 ivk_0 pa1) (by decide +kernel)) ivk_5) (by decide +kernel))); have f416 := li_le g392.1 ivt_0 (show (a1 : Int32).toInt = (a1).toInt from rfl); have f417 := li_le g392.2 (show (a1 : Int32).toInt = (a1).toInt from rfl) ivt_5; have f418 := li_ne g394 ivt_1 ivt_0; have f419 := li_le g395.1 ivt_0 (show (a2 : Int32).toInt = (a2).toInt from rfl); have f420 := li_le g395.2 (show (a2 : Int32).toInt = (a2).toInt from rfl) ivt_4; have f421 := li_ne g397 ivt_1 ivt_0; have f422 := li_le g398 (show (a3 : Int32).toInt = (a3).toInt from rfl) ivt_60; have f423 := li_lt (Int32.not_le.mp g411) (show (a3 : Int32).toInt = (a3).toInt from rfl) ivt_0; have e412 := (show ((-14) : Int32).toInt = (-14) from rfl); omega)) ⟩, fun g424 => hQ _ _ hI (sf_E0 _ _) (iv_w (c := -14) (d := 1) ivk_m1 (by decide +kernel)) (show (0 ≤ (a1 : Int32).toInt ∧ (a1 : Int32).toInt ≤ 5 ∧ 0 ≤ (a2 : Int32).toInt ∧ (a2 : Int32).toInt ≤ 4 ∧ (a3 : Int32).toInt ≤ 60 → ((a3 : Int32).toInt < 0 → ((-1) : Int32).toInt = -14) ∧ (0 ≤ (a3 : Int32).toInt → ((-1) : Int32).toInt = 1)) ∧ (¬ (0 ≤ (a1 : Int32).toInt ∧ (a1 : Int32).toInt ≤ 5 ∧ 0 ≤ (a2 : Int32).toInt ∧ (a2 : Int32).toInt ≤ 4 ∧ (a3 : Int32).toInt ≤ 60) → ((-1) : Int32).toInt = -1) from (by have ⟨b426, b426_⟩ := (show sf_iv 61 2147483647 a3 from (iv_w (c := 61) (d := 2147483647) (iv_ltr (Int32.not_le.mp g424) ivk_60 pa3) (by decide +kernel))); have ⟨b427, b427_⟩ := (show sf_iv 0 4 a2 from (iv_w (c := 0) (d := 4) (iv_lel g395.2 (iv_w (c := 0) (d := 2147483647) (iv_ler g395.1 ivk_0 pa2) (by decide +kernel)) ivk_4) (by decide +kernel))); have ⟨b428, b428_⟩ := (show sf_iv 0 5 a1 from (iv_w (c := 0) (d := 5) (iv_lel g392.2 (iv_w (c := 0) (d := 2147483647) (iv_ler g392.1 ivk_0 pa1) (by decide +kernel)) ivk_5) (by decide +kernel))); have f429 := li_le g392.1 ivt_0 (show (a1 : Int32).toInt = (a1).toInt from rfl); have f430 := li_le g392.2 (show (a1 : Int32).toInt = (a1).toInt from rfl) ivt_5; have f431 := li_ne g394 ivt_1 ivt_0; have f432 := li_le g395.1 ivt_0 (show (a2 : Int32).toInt = (a2).toInt from rfl); have f433 := li_le g395.2 (show (a2 : Int32).toInt = (a2).toInt from rfl) ivt_4; have f434 := li_ne g397 ivt_1 ivt_0; have f435 := li_lt (Int32.not_le.mp g424) ivt_60 (show (a3 : Int32).toInt = (a3).toInt from rfl); have e425 := (show ((-1) : Int32).toInt = (-1) from rfl); omega)) ⟩⟩) (fun g436 => hx_i ⟨fun g437 => hQ _ _ hI (sf_E0 _ _) (iv_w (c := -14) (d := 1) ivk_m1 (by decide +kernel)) (show (0 ≤ (a1 : Int32).toInt ∧ (a1 : Int32).toInt ≤ 5 ∧ 0 ≤ (a2 : Int32).toInt ∧ (a2 : Int32).toInt ≤ 4 ∧ (a3 : Int32).toInt ≤ 60 → ((a3 : Int32).toInt < 0 → ((-1) : Int32).toInt = -14) ∧ (0 ≤ (a3 : Int32).toInt → ((-1) : Int32).toInt = 1)) ∧ (¬ (0 ≤ (a1 : Int32).toInt ∧ (a1 : Int32).toInt ≤ 5 ∧ 0 ≤ (a2 : Int32).toInt ∧ (a2 : Int32).toInt ≤ 4 ∧ (a3 : Int32).toInt ≤ 60) → ((-1) : Int32).toInt = -1) from (by have ⟨b439, b439_⟩ := (show sf_iv (-2147483648) 2147483647 a2 from pa2); have ⟨b440, b440_⟩ := (show sf_iv 0 5 a1 from (iv_w (c := 0) (d := 5) (iv_lel g392.2 (iv_w (c := 0) (d := 2147483647) (iv_ler g392.1 ivk_0 pa1) (by decide +kernel)) ivk_5) (by decide +kernel))); have ⟨b441, b441_⟩ := (show sf_iv (-2147483648) 2147483647 a3 from pa3); have f442 := li_le g392.1 ivt_0 (show (a1 : Int32).toInt = (a1).toInt from rfl); have f443 := li_le g392.2 (show (a1 : Int32).toInt = (a1).toInt from rfl) ivt_5; have f444 := li_ne g394 ivt_1 ivt_0; have f445 := li_nw g436 (show (a2 : Int32).toInt = (a2).toInt from rfl) ivt_0 ivt_4; have f446 := li_eq g437 ivt_0 ivt_0; have e438 := (show ((-1) : Int32).toInt = (-1) from rfl); omega)) , fun g447 => (iv_no (iv_nel g447 ivk_0 ivk_0) (by decide +kernel)).elim⟩))⟩⟩) (fun g448 => hx_i ⟨Or.inl rfl, hx_i ⟨fun g449 => hQ _ _ hI (sf_E0 _ _) (iv_w (c := -14) (d := 1) ivk_m1 (by decide +kernel)) (show (0 ≤ (a1 : Int32).toInt ∧ (a1 : Int32).toInt ≤ 5 ∧ 0 ≤ (a2 : Int32).toInt ∧ (a2 : Int32).toInt ≤ 4 ∧ (a3 : Int32).toInt ≤ 60 → ((a3 : Int32).toInt < 0 → ((-1) : Int32).toInt = -14) ∧ (0 ≤ (a3 : Int32).toInt → ((-1) : Int32).toInt = 1)) ∧ (¬ (0 ≤ (a1 : Int32).toInt ∧ (a1 : Int32).toInt ≤ 5 ∧ 0 ≤ (a2 : Int32).toInt ∧ (a2 : Int32).toInt ≤ 4 ∧ (a3 : Int32).toInt ≤ 60) → ((-1) : Int32).toInt = -1) from (by have ⟨b451, b451_⟩ := (show sf_iv (-2147483648) 2147483647 a1 from pa1); have ⟨b452, b452_⟩ := (show sf_iv (-2147483648) 2147483647 a3 from pa3); have ⟨b453, b453_⟩ := (show sf_iv (-2147483648) 2147483647 a2 from pa2); have f454 := li_nw g448 (show (a1 : Int32).toInt = (a1).toInt from rfl) ivt_0 ivt_5; have f455 := li_eq g449 ivt_0 ivt_0; have e450 := (show ((-1) : Int32).toInt = (-1) from rfl); omega)) , fun g456 => (iv_no (iv_nel g456 ivk_0 ivk_0) (by decide +kernel)).elim⟩⟩)))
/-! ===== what both sides hold alike: damp, how many are heard, how many ratios, the ears ===== -/
def sq_R (h : mx_H) : Prop := (h.2.1 (.inl 71) 0).toInt = (h.2.1 (.inl 105) 71).toInt ∧ (h.2.1 (.inl 68) 0).toInt = (h.2.1 (.inl 105) 65).toInt ∧ (h.2.1 (.inl 80) 0).toInt = (h.2.1 (.inl 105) 83).toInt ∧ ∀ j : Nat, h.2.1 (.inl 72) j = h.2.1 (.inl 149) j
def sq_ok (m : Nat) : Bool := !m.testBit 164 && !m.testBit 295 && !m.testBit 156 && !m.testBit 289 && !m.testBit 183 && !m.testBit 307 && !m.testBit 175 && !m.testBit 361
theorem sq_f {m : Nat} {h h' : mx_H} (hm : sq_ok m = true) (e : sf_El m h h') (r : sq_R h) : sq_R h' := by
  unfold sq_ok at hm
  simp only [Bool.and_eq_true, Bool.not_eq_true'] at hm
  obtain ⟨⟨⟨⟨⟨⟨⟨b1, b2⟩, b3⟩, b4⟩, b5⟩, b6⟩, b7⟩, b8⟩ := hm
  obtain ⟨r1, r2, r3, r4⟩ := r
  refine ⟨?_, ?_, ?_, fun j => ?_⟩
  · rw [e 71 0 b1, e 105 71 b2]
    exact r1
  · rw [e 68 0 b3, e 105 65 b4]
    exact r2
  · rw [e 80 0 b5, e 105 83 b6]
    exact r3
  · rw [e 72 j b7, e 149 j b8]
    exact r4 j
def sq_ev (a1 a2 : Int32) : Prop := (0 ≤ a1 ∧ a1 ≤ 3) ∧ ((-1 : Int32) ≤ a2 ∧ a2 ≤ 5)
section SQE
variable {E : mx_Ev} {d : Nat} {h : mx_H} {Q : Option mx_V → mx_H → Prop} {a1 a2 : Int32}
theorem sq_in (g : 0 ≤ a1 ∧ a1 ≤ 3) : vp_in a1 4 := by
  refine iv_in (a := 0) (b := 3) (n := 4) ⟨?_, ?_⟩ (by decide +kernel)
  · exact Int32.le_iff_toInt_le.mp g.1
  · exact Int32.le_iff_toInt_le.mp g.2
theorem sf130e (hQ1 : sq_ev a1 a2 → Q (some (.inl (.int (h.2.1 (.inl 72) a1.toNatClampNeg)))) (mx_uI h (.inl 72) a1.toNatClampNeg a2)) (hQ0 : ¬ sq_ev a1 a2 → Q (some (.inl (.int (-2000000000)))) h) : mx_C E (mx_fn true) (d + 2) 130 [.inr (.inl 0), .inl (.int a1), .inl (.int a2)] h Q :=
  sg130_0 (sg160_0 (sp_wi (fun g => hx_i ⟨Or.inr rfl, hx_i ⟨fun q => absurd q (by decide +kernel), fun _ => sp_wi (fun g2 => hx_i ⟨fun _ => ⟨sq_in g, sq_in g, hQ1 ⟨g, g2⟩⟩, fun q => absurd (by decide +kernel) q⟩) (fun g2 => hx_i ⟨fun q => absurd rfl q, fun _ => hQ0 (fun e => g2 e.2)⟩)⟩⟩) (fun g => hx_i ⟨Or.inl rfl, hx_i ⟨fun _ => hQ0 (fun e => g e.1), fun q => absurd rfl q⟩⟩)))
theorem sf256e (hQ1 : sq_ev a1 a2 → Q (some (.inl (.int (h.2.1 (.inl 149) a1.toNatClampNeg)))) (mx_uI h (.inl 149) a1.toNatClampNeg a2)) (hQ0 : ¬ sq_ev a1 a2 → Q (some (.inl (.int (-2000000000)))) h) : mx_C E (mx_fn true) (d + 2) 256 [.inr (.inl 105), .inl (.int a1), .inl (.int a2)] h Q :=
  sg256_0 (sg255_0 (sp_ini (fun g => hx_i ⟨Or.inr rfl, hx_i ⟨fun q => absurd q (by decide +kernel), fun _ => sp_ini (fun g2 => hx_i ⟨fun _ => ⟨sq_in g, sq_in g, hQ1 ⟨g, g2⟩⟩, fun q => absurd (by decide +kernel) q⟩) (fun g2 => hx_i ⟨fun q => absurd rfl q, fun _ => hQ0 (fun e => g2 e.2)⟩)⟩⟩) (fun g => hx_i ⟨Or.inl rfl, hx_i ⟨fun _ => hQ0 (fun e => g e.1), fun q => absurd rfl q⟩⟩)))
theorem sq_eI (ev : sq_ev a1 a2) (hI : sf_I h) : sf_I (mx_uI (mx_uI h (.inl 72) a1.toNatClampNeg a2) (.inl 149) a1.toNatClampNeg a2) := by
  have p : sf_iv (-1) 5 a2 := ⟨Int32.le_iff_toInt_le.mp ev.2.1, Int32.le_iff_toInt_le.mp ev.2.2⟩
  exact sf_uI (r := 361) (sf_uI (r := 175) hI rfl p (by decide +kernel)) rfl p (by decide +kernel)
theorem sq_eR (hR : sq_R h) : sq_R (mx_uI (mx_uI h (.inl 72) a1.toNatClampNeg a2) (.inl 149) a1.toNatClampNeg a2) := by
  obtain ⟨r1, r2, r3, r4⟩ := hR
  refine ⟨r1, r2, r3, fun j => ?_⟩
  rw [sf_ro (by decide +kernel)]
  by_cases c : j = a1.toNatClampNeg
  · rw [c, sf_rs, sf_rs]
  · rw [sf_roi c, sf_roi c, sf_ro (by decide +kernel)]
    exact r4 j
end SQE
set_option maxRecDepth 1000000 in
theorem sq_00 : sp_hN.2.1 (.inl 71) 0 = 0 ∧ sp_hN.2.1 (.inl 105) 71 = 0 ∧ sp_hN.2.1 (.inl 68) 0 = 0 ∧ sp_hN.2.1 (.inl 105) 65 = 0 ∧ sp_hN.2.1 (.inl 80) 0 = 0 ∧ sp_hN.2.1 (.inl 105) 83 = 0 ∧ ∀ j, j < 4 → sp_hN.2.1 (.inl 72) j = sp_hN.2.1 (.inl 149) j := by decide +kernel
theorem sq_0 : sq_R sp_hN := by
  obtain ⟨n1, n2, n3, n4, n5, n6, n7⟩ := sq_00
  unfold sq_R
  rw [n1, n2, n3, n4, n5, n6]
  refine ⟨rfl, rfl, rfl, fun j => ?_⟩
  by_cases c : j < 4
  · exact n7 j c
  · rw [sp_hN_i, sp_hN_i]
    have b : Nat.blt j 4 = false := by
      cases q : Nat.blt j 4
      · rfl
      · exact absurd (Nat.blt_eq.mp q) c
    have o1 : sp_ok (.inl 72) j = false := by
      unfold sp_ok
      rw [show (mx_lo (.inl 72)).2 = 4 from rfl, b, Bool.false_and, Bool.and_false]
    have o2 : sp_ok (.inl 149) j = false := by
      unfold sp_ok
      rw [show (mx_lo (.inl 149)).2 = 4 from rfl, b, Bool.false_and, Bool.and_false]
    rw [o1, o2, cond_false, cond_false]
/-! ===== the methods that make shapes, as functions ===== -/
theorem x_new {n : Nat} {L : Nat × Nat} {P : mx_A → Prop} (k : P (mx_adr n)) : ∀ x, mx_pos x = n → mx_va x → mx_lo x = L → P x := fun x p1 p2 _ => by
  rw [← mx_adr_pos p2, p1]
  exact k
set_option maxRecDepth 100000 in
theorem sl58_0 {E : mx_Ev} {n : Nat} {h : mx_H} {Q : Option mx_V → mx_H → Prop} {a0 : mx_A}
    (H : ∀ y1, mx_pos y1 = (mx_uI h a0 0 0).1 → mx_va y1 → mx_lo y1 = (100, 6) → (∀ y2, mx_pos y2 = (mx_uR (mx_nw (mx_uI h a0 0 0) y1) a0 1 (some y1)).1 → mx_va y2 → mx_lo y2 = (100, 6) → (∀ y3, mx_pos y3 = (mx_uR (mx_nw (mx_uR (mx_nw (mx_uI h a0 0 0) y1) a0 1 (some y1)) y2) a0 2 (some y2)).1 → mx_va y3 → mx_lo y3 = (100, 6) → (∀ y4, mx_pos y4 = (mx_uR (mx_nw (mx_uR (mx_nw (mx_uR (mx_nw (mx_uI h a0 0 0) y1) a0 1 (some y1)) y2) a0 2 (some y2)) y3) a0 3 (some y3)).1 → mx_va y4 → mx_lo y4 = (100, 6) → (∀ y5, mx_pos y5 = (mx_uI (mx_uI (mx_uR (mx_nw (mx_uR (mx_nw (mx_uR (mx_nw (mx_uR (mx_nw (mx_uI h a0 0 0) y1) a0 1 (some y1)) y2) a0 2 (some y2)) y3) a0 3 (some y3)) y4) a0 4 (some y4)) a0 5 0) a0 6 0).1 → mx_va y5 → mx_lo y5 = (100, 15) → (∀ y6, mx_pos y6 = (mx_uR (mx_nw (mx_uI (mx_uI (mx_uR (mx_nw (mx_uR (mx_nw (mx_uR (mx_nw (mx_uR (mx_nw (mx_uI h a0 0 0) y1) a0 1 (some y1)) y2) a0 2 (some y2)) y3) a0 3 (some y3)) y4) a0 4 (some y4)) a0 5 0) a0 6 0) y5) a0 7 (some y5)).1 → mx_va y6 → mx_lo y6 = (100, 15) → (∀ y7, mx_pos y7 = (mx_uR (mx_nw (mx_uR (mx_nw (mx_uI (mx_uI (mx_uR (mx_nw (mx_uR (mx_nw (mx_uR (mx_nw (mx_uR (mx_nw (mx_uI h a0 0 0) y1) a0 1 (some y1)) y2) a0 2 (some y2)) y3) a0 3 (some y3)) y4) a0 4 (some y4)) a0 5 0) a0 6 0) y5) a0 7 (some y5)) y6) a0 8 (some y6)).1 → mx_va y7 → mx_lo y7 = (100, 15) → (∀ y8, mx_pos y8 = (mx_uR (mx_nw (mx_uR (mx_nw (mx_uR (mx_nw (mx_uI (mx_uI (mx_uR (mx_nw (mx_uR (mx_nw (mx_uR (mx_nw (mx_uR (mx_nw (mx_uI h a0 0 0) y1) a0 1 (some y1)) y2) a0 2 (some y2)) y3) a0 3 (some y3)) y4) a0 4 (some y4)) a0 5 0) a0 6 0) y5) a0 7 (some y5)) y6) a0 8 (some y6)) y7) a0 9 (some y7)).1 → mx_va y8 → mx_lo y8 = (100, 15) → (Q none (mx_uI (mx_uI (mx_uR (mx_nw (mx_uR (mx_nw (mx_uR (mx_nw (mx_uR (mx_nw (mx_uI (mx_uI (mx_uR (mx_nw (mx_uR (mx_nw (mx_uR (mx_nw (mx_uR (mx_nw (mx_uI h a0 0 0) y1) a0 1 (some y1)) y2) a0 2 (some y2)) y3) a0 3 (some y3)) y4) a0 4 (some y4)) a0 5 0) a0 6 0) y5) a0 7 (some y5)) y6) a0 8 (some y6)) y7) a0 9 (some y7)) y8) a0 10 (some y8)) a0 11 (-1)) a0 12 (-1))))))))))) :
    mx_L E (n + 1) 58 0 [(0, .inr a0)] [] h Q := mx_wl_sound (cuts := []) mx_tbe58 51 H
set_option maxRecDepth 100000 in
theorem sl86_null_0 {E : mx_Ev} {n : Nat} {h : mx_H} {Q : Option mx_V → mx_H → Prop} 
    (H : True) :
    mx_L E (n + 1) 86 0 [(0, .inr (.inl 1)), (1, .inl .null)] [] h Q := mx_wl_sound (cuts := [(17, [0, 1, 2, 3])]) mx_tbe86 35 H
set_option maxRecDepth 100000 in
theorem sl169_0 {E : mx_Ev} {n : Nat} {h : mx_H} {Q : Option mx_V → mx_H → Prop} 
    (H : (∀ j1, h.2.2.2 (.inl 0) 3 = some (.inr (j1, 0)) → (mx_L E n 169 16 [(0, .inr (.inl 0)), (1, .inl (.int 0))] [] (mx_uI h (.inr (j1, 0)) 5 (h.2.1 (.inl 90) 0)) Q)) ∧ (h.2.2.2 (.inl 0) 3 = none → (True))) :
    mx_L E (n + 1) 169 0 [(0, .inr (.inl 0))] [] h Q := mx_wl_sound (cuts := [(16, [0, 1])]) mx_tbe169 46 H
set_option maxRecDepth 100000 in
theorem sl169_16 {E : mx_Ev} {n : Nat} {h : mx_H} {Q : Option mx_V → mx_H → Prop} {a1 : Int32}
    (H : (∀ j1, h.2.2.2 (.inl 0) 3 = some (.inr (j1, 0)) → ((((h.2.1 (.inr (j1, 0)) 6) ≤ a1) → ((∀ j2, h.2.2.2 (.inl 0) 3 = some (.inr (j2, 0)) → ((vp_in (h.2.1 (.inl 0) 2) 12) → (∀ y3, mx_pos y3 = (mx_uI (mx_uR h (.inl 3) (Int32.toNatClampNeg (h.2.1 (.inl 0) 2)) (some (.inr (j2, 0)))) (.inl 0) 2 (((mx_uR h (.inl 3) (Int32.toNatClampNeg (h.2.1 (.inl 0) 2)) (some (.inr (j2, 0)))).2.1 (.inl 0) 2) + 1)).1 → mx_va y3 → mx_lo y3 = (7, 13) → (mx_M E n 58 [.inr y3] (mx_nw (mx_uI (mx_uR h (.inl 3) (Int32.toNatClampNeg (h.2.1 (.inl 0) 2)) (some (.inr (j2, 0)))) (.inl 0) 2 (((mx_uR h (.inl 3) (Int32.toNatClampNeg (h.2.1 (.inl 0) 2)) (some (.inr (j2, 0)))).2.1 (.inl 0) 2) + 1)) y3) (fun v4 h5 => v4 = none → (Q (some (.inl (.int (((mx_uR h5 (.inl 0) 3 (some y3)).2.1 (.inl 0) 2) - 1)))) (mx_uR h5 (.inl 0) 3 (some y3)))))))) ∧ (h.2.2.2 (.inl 0) 3 = none → ((vp_in (h.2.1 (.inl 0) 2) 12) → (∀ y6, mx_pos y6 = (mx_uI (mx_uR h (.inl 3) (Int32.toNatClampNeg (h.2.1 (.inl 0) 2)) none) (.inl 0) 2 (((mx_uR h (.inl 3) (Int32.toNatClampNeg (h.2.1 (.inl 0) 2)) none).2.1 (.inl 0) 2) + 1)).1 → mx_va y6 → mx_lo y6 = (7, 13) → (mx_M E n 58 [.inr y6] (mx_nw (mx_uI (mx_uR h (.inl 3) (Int32.toNatClampNeg (h.2.1 (.inl 0) 2)) none) (.inl 0) 2 (((mx_uR h (.inl 3) (Int32.toNatClampNeg (h.2.1 (.inl 0) 2)) none).2.1 (.inl 0) 2) + 1)) y6) (fun v7 h8 => v7 = none → (Q (some (.inl (.int (((mx_uR h8 (.inl 0) 3 (some y6)).2.1 (.inl 0) 2) - 1)))) (mx_uR h8 (.inl 0) 3 (some y6)))))))))) ∧ (¬ ((h.2.1 (.inr (j1, 0)) 6) ≤ a1) → ((∀ j9, h.2.2.2 (.inl 0) 3 = some (.inr (j9, 0)) → (mx_M E n 37 [.inr (.inl 90), .inl (.int 1), .inr (.inr (j9, 0))] h (fun v10 h11 => ∀ x12, v10 = some (.inl (.int x12)) → (mx_L E n 169 16 [(0, .inr (.inl 0)), (1, .inl (.int (a1 + 1)))] [] h11 Q)))) ∧ (h.2.2.2 (.inl 0) 3 = none → (mx_M E n 37 [.inr (.inl 90), .inl (.int 1), .inl .null] h (fun v13 h14 => ∀ x15, v13 = some (.inl (.int x15)) → (mx_L E n 169 16 [(0, .inr (.inl 0)), (1, .inl (.int (a1 + 1)))] [] h14 Q)))))))) ∧ (h.2.2.2 (.inl 0) 3 = none → (True))) :
    mx_L E (n + 1) 169 16 [(0, .inr (.inl 0)), (1, .inl (.int a1))] [] h Q := mx_wl_sound (cuts := [(16, [0, 1])]) mx_tbe169 46 H
set_option maxRecDepth 100000 in
theorem sl103_0 {E : mx_Ev} {n : Nat} {h : mx_H} {Q : Option mx_V → mx_H → Prop} 
    (H : (∀ j1, h.2.2.2 (.inl 0) 3 = some (.inr (j1, 0)) → (mx_M E n 86 [.inr (.inl 1), .inr (.inr (j1, 0))] h (fun v2 h3 => ∀ x4, v2 = some (.inl (.int x4)) → (((x4 < 0) → ((∀ j5, h3.2.2.2 (.inl 0) 3 = some (.inr (j5, 0)) → (mx_M E n 168 [.inr (.inl 0), .inl (.int (h3.2.1 (.inr (j5, 0)) 6))] h3 (fun v6 h7 => ∀ x8, v6 = some (.inl (.int x8)) → (((x8 = 0) → (mx_M E n 169 [.inr (.inl 0)] (mx_uI h7 (.inl 1) 1 0) (fun v9 h10 => ∀ x11, v9 = some (.inl (.int x11)) → (Q (some (.inl (.int x11))) h10)))) ∧ (¬ (x8 = 0) → (Q (some (.inl (.int (-3)))) h7)))))) ∧ (h3.2.2.2 (.inl 0) 3 = none → (True)))) ∧ (¬ (x4 < 0) → (Q (some (.inl (.int ((-100) - x4)))) (mx_uI h3 (.inl 1) 1 0))))))) ∧ (h.2.2.2 (.inl 0) 3 = none → (mx_M E n 86 [.inr (.inl 1), .inl .null] h (fun v12 h13 => ∀ x14, v12 = some (.inl (.int x14)) → (((x14 < 0) → ((∀ j15, h13.2.2.2 (.inl 0) 3 = some (.inr (j15, 0)) → (mx_M E n 168 [.inr (.inl 0), .inl (.int (h13.2.1 (.inr (j15, 0)) 6))] h13 (fun v16 h17 => ∀ x18, v16 = some (.inl (.int x18)) → (((x18 = 0) → (mx_M E n 169 [.inr (.inl 0)] (mx_uI h17 (.inl 1) 1 0) (fun v19 h20 => ∀ x21, v19 = some (.inl (.int x21)) → (Q (some (.inl (.int x21))) h20)))) ∧ (¬ (x18 = 0) → (Q (some (.inl (.int (-3)))) h17)))))) ∧ (h13.2.2.2 (.inl 0) 3 = none → (True)))) ∧ (¬ (x14 < 0) → (Q (some (.inl (.int ((-100) - x14)))) (mx_uI h13 (.inl 1) 1 0)))))))) :
    mx_L E (n + 1) 103 0 [(0, .inr (.inl 0))] [] h Q := mx_wl_sound (cuts := []) mx_tbe103 32 H
set_option maxRecDepth 100000 in
theorem sl142_0 {E : mx_Ev} {n : Nat} {h : mx_H} {Q : Option mx_V → mx_H → Prop} {a1 : Int32} {a2 : Int32} {a3 : Int32} {a4 : Int32}
    (H : mx_M E n 166 [.inr (.inl 0), .inl (.int a1)] h (fun v1 h2 => (∀ j3, v1 = some (.inr (.inr (j3, 0))) → (mx_M E n 166 [.inr (.inl 0), .inl (.int a2)] h2 (fun v4 h5 => (∀ j6, v4 = some (.inr (.inr (j6, 0))) → (((a3 < 0) → (mx_L E n 142 53 [] [] h5 Q)) ∧ (¬ (a3 < 0) → ((¬ (10 : Int32) = 0) → (mx_M E n 164 [.inr (.inr (j3, 0)), .inl (.int (a3 / 10))] h5 (fun v7 h8 => ∀ x9, v7 = some (.inl (.int x9)) → (((x9 = 0) → (mx_L E n 142 53 [] [] h8 Q)) ∧ (¬ (x9 = 0) → ((¬ (10 : Int32) = 0) → (mx_M E n 164 [.inr (.inr (j6, 0)), .inl (.int (a3 - a3 / 10 * 10))] h8 (fun v10 h11 => ∀ x12, v10 = some (.inl (.int x12)) → (((x12 = 0) → (mx_L E n 142 53 [] [] h11 Q)) ∧ (¬ (x12 = 0) → (mx_M E n 157 [.inl (.int a4), .inl (.int 1), .inl (.int 9)] h11 (fun v13 h14 => ∀ x15, v13 = some (.inl (.int x15)) → (((x15 ≠ 0) → (((((h14.2.1 (.inr (j3, 0)) 0) + (h14.2.1 (.inr (j6, 0)) 0)) ≤ 6) → (mx_M E n 168 [.inr (.inl 0), .inl (.int (((h14.2.1 (.inr (j3, 0)) 6) + (h14.2.1 (.inr (j6, 0)) 6)) + 1))] h14 (fun v16 h17 => ∀ x18, v16 = some (.inl (.int x18)) → (((x18 = 0) → ((∀ j19, h17.2.2.2 (.inl 0) 3 = some (.inr (j19, 0)) → (mx_M E n 59 [.inr (.inr (j19, 0))] h17 (fun v20 h21 => v20 = none → ((∀ j22, h21.2.2.2 (.inl 0) 3 = some (.inr (j22, 0)) → (mx_M E n 64 [.inr (.inr (j22, 0)), .inr (.inr (j3, 0))] h21 (fun v23 h24 => v23 = none → ((∀ j25, h24.2.2.2 (.inl 0) 3 = some (.inr (j25, 0)) → (mx_M E n 64 [.inr (.inr (j25, 0)), .inr (.inr (j6, 0))] h24 (fun v26 h27 => v26 = none → ((∀ j28, h27.2.2.2 (.inl 0) 3 = some (.inr (j28, 0)) → ((¬ (10 : Int32) = 0) → ((¬ (10 : Int32) = 0) → (mx_M E n 63 [.inr (.inr (j28, 0)), .inl (.int (a3 / 10)), .inl (.int ((h27.2.1 (.inr (j3, 0)) 0) + (a3 - a3 / 10 * 10))), .inl (.int a4)] h27 (fun v29 h30 => v29 = none → ((∀ j31, h30.2.2.2 (.inl 0) 3 = some (.inr (j31, 0)) → ((∀ j32, (mx_uI h30 (.inr (j31, 0)) 11 a1).2.2.2 (.inl 0) 3 = some (.inr (j32, 0)) → (mx_M E n 169 [.inr (.inl 0)] (mx_uI (mx_uI h30 (.inr (j31, 0)) 11 a1) (.inr (j32, 0)) 12 a2) (fun v33 h34 => ∀ x35, v33 = some (.inl (.int x35)) → (Q (some (.inl (.int x35))) h34)))) ∧ ((mx_uI h30 (.inr (j31, 0)) 11 a1).2.2.2 (.inl 0) 3 = none → (True)))) ∧ (h30.2.2.2 (.inl 0) 3 = none → (True)))))))) ∧ (h27.2.2.2 (.inl 0) 3 = none → ((¬ (10 : Int32) = 0) → ((¬ (10 : Int32) = 0) → (True)))))))) ∧ (h24.2.2.2 (.inl 0) 3 = none → (True)))))) ∧ (h21.2.2.2 (.inl 0) 3 = none → (True)))))) ∧ (h17.2.2.2 (.inl 0) 3 = none → (True)))) ∧ (¬ (x18 = 0) → (Q (some (.inl (.int (-3)))) h17)))))) ∧ (¬ (((h14.2.1 (.inr (j3, 0)) 0) + (h14.2.1 (.inr (j6, 0)) 0)) ≤ 6) → (Q (some (.inl (.int (-1)))) h14)))) ∧ (¬ (x15 ≠ 0) → (mx_L E n 142 53 [] [] h14 Q)))))))))))))))))) ∧ (v4 = some (.inl .null) → (((a3 < 0) → (mx_L E n 142 53 [] [] h5 Q)) ∧ (¬ (a3 < 0) → ((¬ (10 : Int32) = 0) → (mx_M E n 164 [.inr (.inr (j3, 0)), .inl (.int (a3 / 10))] h5 (fun v36 h37 => ∀ x38, v36 = some (.inl (.int x38)) → (((x38 = 0) → (mx_L E n 142 53 [] [] h37 Q)) ∧ (¬ (x38 = 0) → ((¬ (10 : Int32) = 0) → (mx_M E n 164 [.inl .null, .inl (.int (a3 - a3 / 10 * 10))] h37 (fun v39 h40 => ∀ x41, v39 = some (.inl (.int x41)) → (((x41 = 0) → (mx_L E n 142 53 [] [] h40 Q)) ∧ (¬ (x41 = 0) → (mx_M E n 157 [.inl (.int a4), .inl (.int 1), .inl (.int 9)] h40 (fun v42 h43 => ∀ x44, v42 = some (.inl (.int x44)) → (((x44 ≠ 0) → (True)) ∧ (¬ (x44 ≠ 0) → (mx_L E n 142 53 [] [] h43 Q))))))))))))))))))))) ∧ (v1 = some (.inl .null) → (mx_M E n 166 [.inr (.inl 0), .inl (.int a2)] h2 (fun v45 h46 => (∀ j47, v45 = some (.inr (.inr (j47, 0))) → (((a3 < 0) → (mx_L E n 142 53 [] [] h46 Q)) ∧ (¬ (a3 < 0) → ((¬ (10 : Int32) = 0) → (mx_M E n 164 [.inl .null, .inl (.int (a3 / 10))] h46 (fun v48 h49 => ∀ x50, v48 = some (.inl (.int x50)) → (((x50 = 0) → (mx_L E n 142 53 [] [] h49 Q)) ∧ (¬ (x50 = 0) → ((¬ (10 : Int32) = 0) → (mx_M E n 164 [.inr (.inr (j47, 0)), .inl (.int (a3 - a3 / 10 * 10))] h49 (fun v51 h52 => ∀ x53, v51 = some (.inl (.int x53)) → (((x53 = 0) → (mx_L E n 142 53 [] [] h52 Q)) ∧ (¬ (x53 = 0) → (mx_M E n 157 [.inl (.int a4), .inl (.int 1), .inl (.int 9)] h52 (fun v54 h55 => ∀ x56, v54 = some (.inl (.int x56)) → (((x56 ≠ 0) → (True)) ∧ (¬ (x56 ≠ 0) → (mx_L E n 142 53 [] [] h55 Q)))))))))))))))))) ∧ (v45 = some (.inl .null) → (((a3 < 0) → (mx_L E n 142 53 [] [] h46 Q)) ∧ (¬ (a3 < 0) → ((¬ (10 : Int32) = 0) → (mx_M E n 164 [.inl .null, .inl (.int (a3 / 10))] h46 (fun v57 h58 => ∀ x59, v57 = some (.inl (.int x59)) → (((x59 = 0) → (mx_L E n 142 53 [] [] h58 Q)) ∧ (¬ (x59 = 0) → ((¬ (10 : Int32) = 0) → (mx_M E n 164 [.inl .null, .inl (.int (a3 - a3 / 10 * 10))] h58 (fun v60 h61 => ∀ x62, v60 = some (.inl (.int x62)) → (((x62 = 0) → (mx_L E n 142 53 [] [] h61 Q)) ∧ (¬ (x62 = 0) → (mx_M E n 157 [.inl (.int a4), .inl (.int 1), .inl (.int 9)] h61 (fun v63 h64 => ∀ x65, v63 = some (.inl (.int x65)) → (((x65 ≠ 0) → (True)) ∧ (¬ (x65 ≠ 0) → (mx_L E n 142 53 [] [] h64 Q))))))))))))))))))))))) :
    mx_L E (n + 1) 142 0 [(0, .inr (.inl 0)), (1, .inl (.int a1)), (2, .inl (.int a2)), (3, .inl (.int a3)), (4, .inl (.int a4))] [] h Q := mx_wl_sound (cuts := [(53, [])]) mx_tbe142 86 H
set_option maxRecDepth 100000 in
theorem sl142_53 {E : mx_Ev} {n : Nat} {h : mx_H} {Q : Option mx_V → mx_H → Prop} 
    (H : Q (some (.inl (.int (-1)))) h) :
    mx_L E (n + 1) 142 53 [] [] h Q := mx_wl_sound (cuts := [(53, [])]) mx_tbe142 86 H
noncomputable def f58 (a0 : mx_A) (h : mx_H) : mx_H := x_box (x_val (mx_adr (mx_uI h a0 0 0).1) (fun y1 => (x_val (mx_adr (mx_uR (mx_nw (mx_uI h a0 0 0) y1) a0 1 (some y1)).1) (fun y2 => (x_val (mx_adr (mx_uR (mx_nw (mx_uR (mx_nw (mx_uI h a0 0 0) y1) a0 1 (some y1)) y2) a0 2 (some y2)).1) (fun y3 => (x_val (mx_adr (mx_uR (mx_nw (mx_uR (mx_nw (mx_uR (mx_nw (mx_uI h a0 0 0) y1) a0 1 (some y1)) y2) a0 2 (some y2)) y3) a0 3 (some y3)).1) (fun y4 => (x_val (mx_adr (mx_uI (mx_uI (mx_uR (mx_nw (mx_uR (mx_nw (mx_uR (mx_nw (mx_uR (mx_nw (mx_uI h a0 0 0) y1) a0 1 (some y1)) y2) a0 2 (some y2)) y3) a0 3 (some y3)) y4) a0 4 (some y4)) a0 5 0) a0 6 0).1) (fun y5 => (x_val (mx_adr (mx_uR (mx_nw (mx_uI (mx_uI (mx_uR (mx_nw (mx_uR (mx_nw (mx_uR (mx_nw (mx_uR (mx_nw (mx_uI h a0 0 0) y1) a0 1 (some y1)) y2) a0 2 (some y2)) y3) a0 3 (some y3)) y4) a0 4 (some y4)) a0 5 0) a0 6 0) y5) a0 7 (some y5)).1) (fun y6 => (x_val (mx_adr (mx_uR (mx_nw (mx_uR (mx_nw (mx_uI (mx_uI (mx_uR (mx_nw (mx_uR (mx_nw (mx_uR (mx_nw (mx_uR (mx_nw (mx_uI h a0 0 0) y1) a0 1 (some y1)) y2) a0 2 (some y2)) y3) a0 3 (some y3)) y4) a0 4 (some y4)) a0 5 0) a0 6 0) y5) a0 7 (some y5)) y6) a0 8 (some y6)).1) (fun y7 => (x_val (mx_adr (mx_uR (mx_nw (mx_uR (mx_nw (mx_uR (mx_nw (mx_uI (mx_uI (mx_uR (mx_nw (mx_uR (mx_nw (mx_uR (mx_nw (mx_uR (mx_nw (mx_uI h a0 0 0) y1) a0 1 (some y1)) y2) a0 2 (some y2)) y3) a0 3 (some y3)) y4) a0 4 (some y4)) a0 5 0) a0 6 0) y5) a0 7 (some y5)) y6) a0 8 (some y6)) y7) a0 9 (some y7)).1) (fun y8 => (mx_uI (mx_uI (mx_uR (mx_nw (mx_uR (mx_nw (mx_uR (mx_nw (mx_uR (mx_nw (mx_uI (mx_uI (mx_uR (mx_nw (mx_uR (mx_nw (mx_uR (mx_nw (mx_uR (mx_nw (mx_uI h a0 0 0) y1) a0 1 (some y1)) y2) a0 2 (some y2)) y3) a0 3 (some y3)) y4) a0 4 (some y4)) a0 5 0) a0 6 0) y5) a0 7 (some y5)) y6) a0 8 (some y6)) y7) a0 9 (some y7)) y8) a0 10 (some y8)) a0 11 (-1)) a0 12 (-1))))))))))))))))))
theorem f58_eq (a0 : mx_A) (h : mx_H) : f58 a0 h = (x_val (mx_adr (mx_uI h a0 0 0).1) (fun y1 => (x_val (mx_adr (mx_uR (mx_nw (mx_uI h a0 0 0) y1) a0 1 (some y1)).1) (fun y2 => (x_val (mx_adr (mx_uR (mx_nw (mx_uR (mx_nw (mx_uI h a0 0 0) y1) a0 1 (some y1)) y2) a0 2 (some y2)).1) (fun y3 => (x_val (mx_adr (mx_uR (mx_nw (mx_uR (mx_nw (mx_uR (mx_nw (mx_uI h a0 0 0) y1) a0 1 (some y1)) y2) a0 2 (some y2)) y3) a0 3 (some y3)).1) (fun y4 => (x_val (mx_adr (mx_uI (mx_uI (mx_uR (mx_nw (mx_uR (mx_nw (mx_uR (mx_nw (mx_uR (mx_nw (mx_uI h a0 0 0) y1) a0 1 (some y1)) y2) a0 2 (some y2)) y3) a0 3 (some y3)) y4) a0 4 (some y4)) a0 5 0) a0 6 0).1) (fun y5 => (x_val (mx_adr (mx_uR (mx_nw (mx_uI (mx_uI (mx_uR (mx_nw (mx_uR (mx_nw (mx_uR (mx_nw (mx_uR (mx_nw (mx_uI h a0 0 0) y1) a0 1 (some y1)) y2) a0 2 (some y2)) y3) a0 3 (some y3)) y4) a0 4 (some y4)) a0 5 0) a0 6 0) y5) a0 7 (some y5)).1) (fun y6 => (x_val (mx_adr (mx_uR (mx_nw (mx_uR (mx_nw (mx_uI (mx_uI (mx_uR (mx_nw (mx_uR (mx_nw (mx_uR (mx_nw (mx_uR (mx_nw (mx_uI h a0 0 0) y1) a0 1 (some y1)) y2) a0 2 (some y2)) y3) a0 3 (some y3)) y4) a0 4 (some y4)) a0 5 0) a0 6 0) y5) a0 7 (some y5)) y6) a0 8 (some y6)).1) (fun y7 => (x_val (mx_adr (mx_uR (mx_nw (mx_uR (mx_nw (mx_uR (mx_nw (mx_uI (mx_uI (mx_uR (mx_nw (mx_uR (mx_nw (mx_uR (mx_nw (mx_uR (mx_nw (mx_uI h a0 0 0) y1) a0 1 (some y1)) y2) a0 2 (some y2)) y3) a0 3 (some y3)) y4) a0 4 (some y4)) a0 5 0) a0 6 0) y5) a0 7 (some y5)) y6) a0 8 (some y6)) y7) a0 9 (some y7)).1) (fun y8 => (mx_uI (mx_uI (mx_uR (mx_nw (mx_uR (mx_nw (mx_uR (mx_nw (mx_uR (mx_nw (mx_uI (mx_uI (mx_uR (mx_nw (mx_uR (mx_nw (mx_uR (mx_nw (mx_uR (mx_nw (mx_uI h a0 0 0) y1) a0 1 (some y1)) y2) a0 2 (some y2)) y3) a0 3 (some y3)) y4) a0 4 (some y4)) a0 5 0) a0 6 0) y5) a0 7 (some y5)) y6) a0 8 (some y6)) y7) a0 9 (some y7)) y8) a0 10 (some y8)) a0 11 (-1)) a0 12 (-1)))))))))))))))))) := x_box_eq _
theorem x58 {E : mx_Ev} {n : Nat} {h : mx_H} {Q : Option mx_V → mx_H → Prop} {a0 : mx_A} (hK : (xK_v Q) (f58 a0 h)) : mx_M E n 58 [.inr a0] h Q := by
  cases n with
  | zero => exact mx_L.zero
  | succ n => exact sl58_0 (x_use (x_eq (K := (xK_v Q)) (f58_eq a0 h) hK) (fun hK => (x_new (x_valk hK (fun hK => (x_new (x_valk hK (fun hK => (x_new (x_valk hK (fun hK => (x_new (x_valk hK (fun hK => (x_new (x_valk hK (fun hK => (x_new (x_valk hK (fun hK => (x_new (x_valk hK (fun hK => (x_new (x_valk hK (fun hK => hK))))))))))))))))))))))))))
noncomputable def f86_null  (h : mx_H) : Int32 × mx_H := x_box (0, h)
theorem f86_null_eq  (h : mx_H) : f86_null  h = (0, h) := x_box_eq _
theorem x86_null {E : mx_Ev} {n : Nat} {h : mx_H} {Q : Option mx_V → mx_H → Prop} (hK : (xK_i Q) (f86_null  h)) : mx_M E n 86 [.inr (.inl 1), .inl .null] h Q := by
  cases n with
  | zero => exact mx_L.zero
  | succ n => exact sl86_null_0 (x_use (x_eq (K := (xK_i Q)) (f86_null_eq  h) hK) (fun hK => True.intro))
noncomputable def b169 : ((Int32 × mx_H)) → ((Int32 × mx_H)) ⊕ (Int32 × mx_H)
  | (a1, h) => (x_opt (ml_sn (h.2.2.2 (.inl 0) 3)) (fun j1 => (if (h.2.1 (.inr (j1, 0)) 6) ≤ a1 then (x_opt (ml_sn (h.2.2.2 (.inl 0) 3)) (fun j2 => (x_val (mx_adr (mx_uI (mx_uR h (.inl 3) (Int32.toNatClampNeg (h.2.1 (.inl 0) 2)) (some (.inr (j2, 0)))) (.inl 0) 2 (((mx_uR h (.inl 3) (Int32.toNatClampNeg (h.2.1 (.inl 0) 2)) (some (.inr (j2, 0)))).2.1 (.inl 0) 2) + 1)).1) (fun y3 => (x_h (f58 y3 (mx_nw (mx_uI (mx_uR h (.inl 3) (Int32.toNatClampNeg (h.2.1 (.inl 0) 2)) (some (.inr (j2, 0)))) (.inl 0) 2 (((mx_uR h (.inl 3) (Int32.toNatClampNeg (h.2.1 (.inl 0) 2)) (some (.inr (j2, 0)))).2.1 (.inl 0) 2) + 1)) y3)) (fun h5 => (Sum.inr ((((mx_uR h5 (.inl 0) 3 (some y3)).2.1 (.inl 0) 2) - 1 : Int32), mx_uR h5 (.inl 0) 3 (some y3)))))))) (x_val (mx_adr (mx_uI (mx_uR h (.inl 3) (Int32.toNatClampNeg (h.2.1 (.inl 0) 2)) none) (.inl 0) 2 (((mx_uR h (.inl 3) (Int32.toNatClampNeg (h.2.1 (.inl 0) 2)) none).2.1 (.inl 0) 2) + 1)).1) (fun y6 => (x_h (f58 y6 (mx_nw (mx_uI (mx_uR h (.inl 3) (Int32.toNatClampNeg (h.2.1 (.inl 0) 2)) none) (.inl 0) 2 (((mx_uR h (.inl 3) (Int32.toNatClampNeg (h.2.1 (.inl 0) 2)) none).2.1 (.inl 0) 2) + 1)) y6)) (fun h8 => (Sum.inr ((((mx_uR h8 (.inl 0) 3 (some y6)).2.1 (.inl 0) 2) - 1 : Int32), mx_uR h8 (.inl 0) 3 (some y6)))))))) else (x_opt (ml_sn (h.2.2.2 (.inl 0) 3)) (fun j9 => (x_let (f37 1 j9 h) (fun x12 h11 => (Sum.inl ((a1 + 1), h11))))) (x_let (f37_null 1 h) (fun x15 h14 => (Sum.inl ((a1 + 1), h14))))))) (Sum.inr (0, h)))
noncomputable def g169_16 (a1 : Int32) (h : mx_H) : Int32 × mx_H := ml_wh b169 (a1, h)
theorem g169_16_eq (a1 : Int32) (h : mx_H) : g169_16 a1 h = (x_opt (ml_sn (h.2.2.2 (.inl 0) 3)) (fun j1 => (if (h.2.1 (.inr (j1, 0)) 6) ≤ a1 then (x_opt (ml_sn (h.2.2.2 (.inl 0) 3)) (fun j2 => (x_val (mx_adr (mx_uI (mx_uR h (.inl 3) (Int32.toNatClampNeg (h.2.1 (.inl 0) 2)) (some (.inr (j2, 0)))) (.inl 0) 2 (((mx_uR h (.inl 3) (Int32.toNatClampNeg (h.2.1 (.inl 0) 2)) (some (.inr (j2, 0)))).2.1 (.inl 0) 2) + 1)).1) (fun y3 => (x_h (f58 y3 (mx_nw (mx_uI (mx_uR h (.inl 3) (Int32.toNatClampNeg (h.2.1 (.inl 0) 2)) (some (.inr (j2, 0)))) (.inl 0) 2 (((mx_uR h (.inl 3) (Int32.toNatClampNeg (h.2.1 (.inl 0) 2)) (some (.inr (j2, 0)))).2.1 (.inl 0) 2) + 1)) y3)) (fun h5 => ((((mx_uR h5 (.inl 0) 3 (some y3)).2.1 (.inl 0) 2) - 1 : Int32), mx_uR h5 (.inl 0) 3 (some y3))))))) (x_val (mx_adr (mx_uI (mx_uR h (.inl 3) (Int32.toNatClampNeg (h.2.1 (.inl 0) 2)) none) (.inl 0) 2 (((mx_uR h (.inl 3) (Int32.toNatClampNeg (h.2.1 (.inl 0) 2)) none).2.1 (.inl 0) 2) + 1)).1) (fun y6 => (x_h (f58 y6 (mx_nw (mx_uI (mx_uR h (.inl 3) (Int32.toNatClampNeg (h.2.1 (.inl 0) 2)) none) (.inl 0) 2 (((mx_uR h (.inl 3) (Int32.toNatClampNeg (h.2.1 (.inl 0) 2)) none).2.1 (.inl 0) 2) + 1)) y6)) (fun h8 => ((((mx_uR h8 (.inl 0) 3 (some y6)).2.1 (.inl 0) 2) - 1 : Int32), mx_uR h8 (.inl 0) 3 (some y6))))))) else (x_opt (ml_sn (h.2.2.2 (.inl 0) 3)) (fun j9 => (x_let (f37 1 j9 h) (fun x12 h11 => (g169_16 (a1 + 1) h11)))) (x_let (f37_null 1 h) (fun x15 h14 => (g169_16 (a1 + 1) h14)))))) (0, h)) := by
  unfold g169_16
  rw [ml_wh_eq]
  simp only [b169, ml_go_ite, ml_go_l, ml_go_r, ml_go_opt, ml_go_let, ml_go_h, ml_go_val]
  try rfl
noncomputable def f169  (h : mx_H) : Int32 × mx_H := x_box (x_opt (ml_sn (h.2.2.2 (.inl 0) 3)) (fun j1 => (g169_16 0 (mx_uI h (.inr (j1, 0)) 5 (h.2.1 (.inl 90) 0)))) (0, h))
theorem f169_eq  (h : mx_H) : f169  h = (x_opt (ml_sn (h.2.2.2 (.inl 0) 3)) (fun j1 => (g169_16 0 (mx_uI h (.inr (j1, 0)) 5 (h.2.1 (.inl 90) 0)))) (0, h)) := x_box_eq _
theorem xw169 {E : mx_Ev} {Q : Option mx_V → mx_H → Prop} : ∀ n : Nat, (∀ (a1 : Int32) (h : mx_H), (xK_i Q) (g169_16 a1 h) → mx_L E n 169 16 [(0, .inr (.inl 0)), (1, .inl (.int a1))] [] h Q)
  | 0 => fun _ _ _ => mx_L.zero
  | n + 1 => fun a1 h hK => sl169_16 (x_use (x_eq (K := (xK_i Q)) (g169_16_eq a1 h) hK) (fun hK => (x_ref hK (fun j1 hK => (x_ite hK (fun hK => (x_ref hK (fun j2 hK => (fun _ => (x_new (x_valk hK (fun hK => (x58 (xh_n (x_hk hK (fun hK => hK))))))))) (fun hK => (fun _ => (x_new (x_valk hK (fun hK => (x58 (xh_n (x_hk hK (fun hK => hK))))))))))) (fun hK => (x_ref hK (fun j9 hK => (x37 (xh_i (x_letk hK (fun hK => ((xw169 n) _ _ hK)))))) (fun hK => (x37_null (xh_i (x_letk hK (fun hK => ((xw169 n) _ _ hK)))))))))) (fun hK => True.intro))))
theorem x169 {E : mx_Ev} {n : Nat} {h : mx_H} {Q : Option mx_V → mx_H → Prop} (hK : (xK_i Q) (f169  h)) : mx_M E n 169 [.inr (.inl 0)] h Q := by
  cases n with
  | zero => exact mx_L.zero
  | succ n => exact sl169_0 (x_use (x_eq (K := (xK_i Q)) (f169_eq  h) hK) (fun hK => (x_ref hK (fun j1 hK => ((xw169 n) _ _ hK)) (fun hK => True.intro))))
noncomputable def f103  (h : mx_H) : Int32 × mx_H := x_box (x_opt (ml_sn (h.2.2.2 (.inl 0) 3)) (fun j1 => (x_let (f86 j1 h) (fun x4 h3 => (if x4 < 0 then (x_opt (ml_sn (h3.2.2.2 (.inl 0) 3)) (fun j5 => (if (f168 (h3.2.1 (.inr (j5, 0)) 6) h3) = 0 then (x_let (f169 (mx_uI h3 (.inl 1) 1 0)) (fun x11 h10 => ((x11 : Int32), h10))) else (((-3) : Int32), h3))) (0, h)) else (((-100) - x4 : Int32), mx_uI h3 (.inl 1) 1 0))))) (x_let (f86_null h) (fun x14 h13 => (if x14 < 0 then (x_opt (ml_sn (h13.2.2.2 (.inl 0) 3)) (fun j15 => (if (f168 (h13.2.1 (.inr (j15, 0)) 6) h13) = 0 then (x_let (f169 (mx_uI h13 (.inl 1) 1 0)) (fun x21 h20 => ((x21 : Int32), h20))) else (((-3) : Int32), h13))) (0, h)) else (((-100) - x14 : Int32), mx_uI h13 (.inl 1) 1 0)))))
theorem f103_eq  (h : mx_H) : f103  h = (x_opt (ml_sn (h.2.2.2 (.inl 0) 3)) (fun j1 => (x_let (f86 j1 h) (fun x4 h3 => (if x4 < 0 then (x_opt (ml_sn (h3.2.2.2 (.inl 0) 3)) (fun j5 => (if (f168 (h3.2.1 (.inr (j5, 0)) 6) h3) = 0 then (x_let (f169 (mx_uI h3 (.inl 1) 1 0)) (fun x11 h10 => ((x11 : Int32), h10))) else (((-3) : Int32), h3))) (0, h)) else (((-100) - x4 : Int32), mx_uI h3 (.inl 1) 1 0))))) (x_let (f86_null h) (fun x14 h13 => (if x14 < 0 then (x_opt (ml_sn (h13.2.2.2 (.inl 0) 3)) (fun j15 => (if (f168 (h13.2.1 (.inr (j15, 0)) 6) h13) = 0 then (x_let (f169 (mx_uI h13 (.inl 1) 1 0)) (fun x21 h20 => ((x21 : Int32), h20))) else (((-3) : Int32), h13))) (0, h)) else (((-100) - x14 : Int32), mx_uI h13 (.inl 1) 1 0))))) := x_box_eq _
theorem x103 {E : mx_Ev} {n : Nat} {h : mx_H} {Q : Option mx_V → mx_H → Prop} (hK : (xK_i Q) (f103  h)) : mx_M E n 103 [.inr (.inl 0)] h Q := by
  cases n with
  | zero => exact mx_L.zero
  | succ n => exact sl103_0 (x_use (x_eq (K := (xK_i Q)) (f103_eq  h) hK) (fun hK => (x_ref hK (fun j1 hK => (x86 (xh_i (x_letk hK (fun hK => (x_ite hK (fun hK => (x_ref hK (fun j5 hK => (x168 (xh_i (x_ite hK (fun hK => (x169 (xh_i (x_letk hK (fun hK => hK))))) (fun hK => hK))))) (fun hK => True.intro))) (fun hK => hK))))))) (fun hK => (x86_null (xh_i (x_letk hK (fun hK => (x_ite hK (fun hK => (x_ref hK (fun j15 hK => (x168 (xh_i (x_ite hK (fun hK => (x169 (xh_i (x_letk hK (fun hK => hK))))) (fun hK => hK))))) (fun hK => True.intro))) (fun hK => hK))))))))))
noncomputable def b142 : ((mx_H)) → ((mx_H)) ⊕ (Int32 × mx_H)
  | h => (Sum.inr (((-1) : Int32), h))
noncomputable def g142_53  (h : mx_H) : Int32 × mx_H := ml_wh b142 h
theorem g142_53_eq  (h : mx_H) : g142_53  h = (((-1) : Int32), h) := by
  unfold g142_53
  rw [ml_wh_eq]
  simp only [b142, ml_go_ite, ml_go_l, ml_go_r, ml_go_opt, ml_go_let, ml_go_h, ml_go_val]
  try rfl
noncomputable def f142 (a1 : Int32) (a2 : Int32) (a3 : Int32) (a4 : Int32) (h : mx_H) : Int32 × mx_H := x_box (x_opt (f166 a1 h) (fun j3 => (x_opt (f166 a2 h) (fun j6 => (if a3 < 0 then (g142_53  h) else (if (f164 j3 (a3 / 10) h) = 0 then (g142_53  h) else (if (f164 j6 (a3 - a3 / 10 * 10) h) = 0 then (g142_53  h) else (if (f157 a4 1 9) ≠ 0 then (if ((h.2.1 (.inr (j3, 0)) 0) + (h.2.1 (.inr (j6, 0)) 0)) ≤ 6 then (if (f168 (((h.2.1 (.inr (j3, 0)) 6) + (h.2.1 (.inr (j6, 0)) 6)) + 1) h) = 0 then (x_opt (ml_sn (h.2.2.2 (.inl 0) 3)) (fun j19 => (x_h (f59 j19 h) (fun h21 => (x_opt (ml_sn (h21.2.2.2 (.inl 0) 3)) (fun j22 => (x_h (f64 j22 j3 h21) (fun h24 => (x_opt (ml_sn (h24.2.2.2 (.inl 0) 3)) (fun j25 => (x_h (f64 j25 j6 h24) (fun h27 => (x_opt (ml_sn (h27.2.2.2 (.inl 0) 3)) (fun j28 => (x_h (f63 j28 (a3 / 10) ((h27.2.1 (.inr (j3, 0)) 0) + (a3 - a3 / 10 * 10)) a4 h27) (fun h30 => (x_opt (ml_sn (h30.2.2.2 (.inl 0) 3)) (fun j31 => (x_opt (ml_sn ((mx_uI h30 (.inr (j31, 0)) 11 a1).2.2.2 (.inl 0) 3)) (fun j32 => (x_let (f169 (mx_uI (mx_uI h30 (.inr (j31, 0)) 11 a1) (.inr (j32, 0)) 12 a2)) (fun x35 h34 => ((x35 : Int32), h34)))) (0, h))) (0, h))))) (0, h))))) (0, h))))) (0, h))))) (0, h)) else (((-3) : Int32), h)) else (((-1) : Int32), h)) else (g142_53  h)))))) (if a3 < 0 then (g142_53  h) else (if (f164 j3 (a3 / 10) h) = 0 then (g142_53  h) else (g142_53  h))))) (x_opt (f166 a2 h) (fun j47 => (if a3 < 0 then (g142_53  h) else (g142_53  h))) (if a3 < 0 then (g142_53  h) else (g142_53  h))))
theorem f142_eq (a1 : Int32) (a2 : Int32) (a3 : Int32) (a4 : Int32) (h : mx_H) : f142 a1 a2 a3 a4 h = (x_opt (f166 a1 h) (fun j3 => (x_opt (f166 a2 h) (fun j6 => (if a3 < 0 then (g142_53  h) else (if (f164 j3 (a3 / 10) h) = 0 then (g142_53  h) else (if (f164 j6 (a3 - a3 / 10 * 10) h) = 0 then (g142_53  h) else (if (f157 a4 1 9) ≠ 0 then (if ((h.2.1 (.inr (j3, 0)) 0) + (h.2.1 (.inr (j6, 0)) 0)) ≤ 6 then (if (f168 (((h.2.1 (.inr (j3, 0)) 6) + (h.2.1 (.inr (j6, 0)) 6)) + 1) h) = 0 then (x_opt (ml_sn (h.2.2.2 (.inl 0) 3)) (fun j19 => (x_h (f59 j19 h) (fun h21 => (x_opt (ml_sn (h21.2.2.2 (.inl 0) 3)) (fun j22 => (x_h (f64 j22 j3 h21) (fun h24 => (x_opt (ml_sn (h24.2.2.2 (.inl 0) 3)) (fun j25 => (x_h (f64 j25 j6 h24) (fun h27 => (x_opt (ml_sn (h27.2.2.2 (.inl 0) 3)) (fun j28 => (x_h (f63 j28 (a3 / 10) ((h27.2.1 (.inr (j3, 0)) 0) + (a3 - a3 / 10 * 10)) a4 h27) (fun h30 => (x_opt (ml_sn (h30.2.2.2 (.inl 0) 3)) (fun j31 => (x_opt (ml_sn ((mx_uI h30 (.inr (j31, 0)) 11 a1).2.2.2 (.inl 0) 3)) (fun j32 => (x_let (f169 (mx_uI (mx_uI h30 (.inr (j31, 0)) 11 a1) (.inr (j32, 0)) 12 a2)) (fun x35 h34 => ((x35 : Int32), h34)))) (0, h))) (0, h))))) (0, h))))) (0, h))))) (0, h))))) (0, h)) else (((-3) : Int32), h)) else (((-1) : Int32), h)) else (g142_53  h)))))) (if a3 < 0 then (g142_53  h) else (if (f164 j3 (a3 / 10) h) = 0 then (g142_53  h) else (g142_53  h))))) (x_opt (f166 a2 h) (fun j47 => (if a3 < 0 then (g142_53  h) else (g142_53  h))) (if a3 < 0 then (g142_53  h) else (g142_53  h)))) := x_box_eq _
theorem xw142 {E : mx_Ev} {Q : Option mx_V → mx_H → Prop} : ∀ n : Nat, (∀ (h : mx_H), (xK_i Q) (g142_53  h) → mx_L E n 142 53 [] [] h Q)
  | 0 => fun _ _ => mx_L.zero
  | n + 1 => fun h hK => sl142_53 (x_use (x_eq (K := (xK_i Q)) (g142_53_eq  h) hK) (fun hK => hK))
theorem x142 {E : mx_Ev} {n : Nat} {h : mx_H} {Q : Option mx_V → mx_H → Prop} {a1 : Int32} {a2 : Int32} {a3 : Int32} {a4 : Int32} (hK : (xK_i Q) (f142 a1 a2 a3 a4 h)) : mx_M E n 142 [.inr (.inl 0), .inl (.int a1), .inl (.int a2), .inl (.int a3), .inl (.int a4)] h Q := by
  cases n with
  | zero => exact mx_L.zero
  | succ n => exact sl142_0 (x_use (x_eq (K := (xK_i Q)) (f142_eq a1 a2 a3 a4 h) hK) (fun hK => (x166 (x_ov hK (fun j3 hK => (x166 (x_ov hK (fun j6 hK => (x_ite hK (fun hK => ((xw142 n) _ hK)) (fun hK => (fun _ => (x164 (xh_i (x_ite hK (fun hK => ((xw142 n) _ hK)) (fun hK => (fun _ => (x164 (xh_i (x_ite hK (fun hK => ((xw142 n) _ hK)) (fun hK => (x157 (xh_i (x_ite hK (fun hK => (x_ite hK (fun hK => (x168 (xh_i (x_ite hK (fun hK => (x_ref hK (fun j19 hK => (x59 (xh_n (x_hk hK (fun hK => (x_ref hK (fun j22 hK => (x64 (xh_n (x_hk hK (fun hK => (x_ref hK (fun j25 hK => (x64 (xh_n (x_hk hK (fun hK => (x_ref hK (fun j28 hK => (fun _ => (fun _ => (x63 (xh_n (x_hk hK (fun hK => (x_ref hK (fun j31 hK => (x_ref hK (fun j32 hK => (x169 (xh_i (x_letk hK (fun hK => hK))))) (fun hK => True.intro))) (fun hK => True.intro))))))))) (fun hK => (fun _ => (fun _ => True.intro))))))))) (fun hK => True.intro))))))) (fun hK => True.intro))))))) (fun hK => True.intro))) (fun hK => hK))))) (fun hK => hK))) (fun hK => ((xw142 n) _ hK)))))))))))))))))) (fun hK => (x_ite hK (fun hK => ((xw142 n) _ hK)) (fun hK => (fun _ => (x164 (xh_i (x_ite hK (fun hK => ((xw142 n) _ hK)) (fun hK => (fun _ => (x164_null (xh_i ⟨fun _ => ((xw142 n) _ hK), fun q => absurd (f164_null_eq _ _) q⟩)))))))))))))) (fun hK => (x166 (x_ov hK (fun j47 hK => (x_ite hK (fun hK => ((xw142 n) _ hK)) (fun hK => (fun _ => (x164_null (xh_i ⟨fun _ => ((xw142 n) _ hK), fun q => absurd (f164_null_eq _ _) q⟩)))))) (fun hK => (x_ite hK (fun hK => ((xw142 n) _ hK)) (fun hK => (fun _ => (x164_null (xh_i ⟨fun _ => ((xw142 n) _ hK), fun q => absurd (f164_null_eq _ _) q⟩)))))))))))))
/-! ===== ints as numbers; cells read behind stores ===== -/
abbrev rD (h : mx_H) (a : mx_A) (i : Nat) : Int := (h.2.1 a i).toInt
theorem rI (h : mx_H) (a : mx_A) (i : Nat) (v : Int32) (b : mx_A) (j : Nat) : (mx_uI h a i v).2.1 b j = if b = a ∧ j = i then v else h.2.1 b j := rfl
section RT
variable {h : mx_H} {a b : mx_A} {i j : Nat} {v x y : Int32} {p q : Int} {k m : Nat}
theorem rI_s : (mx_uI h a i v).2.1 a i = v := if_pos ⟨rfl, rfl⟩
theorem rI_a (e : b ≠ a) : (mx_uI h a i v).2.1 b j = h.2.1 b j := if_neg (fun q => e q.1)
theorem rI_i (e : j ≠ i) : (mx_uI h a i v).2.1 b j = h.2.1 b j := if_neg (fun q => e q.2)
theorem rI_c (e1 : b = a) (e2 : j = i) : (mx_uI h a i v).2.1 b j = v := if_pos ⟨e1, e2⟩
theorem i_le (hx : x.toInt = p) (hy : y.toInt = q) (e : p ≤ q) : x ≤ y := Int32.le_iff_toInt_le.mpr (by omega)
theorem i_lt (hx : x.toInt = p) (hy : y.toInt = q) (e : p < q) : x < y := Int32.lt_iff_toInt_lt.mpr (by omega)
theorem i_nle (hx : x.toInt = p) (hy : y.toInt = q) (e : q < p) : ¬ x ≤ y := fun c => by
  have := Int32.le_iff_toInt_le.mp c
  omega
theorem i_nlt (hx : x.toInt = p) (hy : y.toInt = q) (e : q ≤ p) : ¬ x < y := fun c => by
  have := Int32.lt_iff_toInt_lt.mp c
  omega
theorem i_eq (hx : x.toInt = p) (hy : y.toInt = q) (e : p = q) : x = y := Int32.toInt_inj.mp (by omega)
theorem i_ne (hx : x.toInt = p) (hy : y.toInt = q) (e : p ≠ q) : ¬ x = y := fun c => by
  subst c
  omega
theorem i_cl (hx : x.toInt = (k : Int)) : x.toNatClampNeg = k := by
  show x.toInt.toNat = k
  omega
theorem i_b (x : Int32) : -2147483648 ≤ x.toInt ∧ x.toInt ≤ 2147483647 := ⟨Int32.le_toInt x, Int32.toInt_le x⟩
theorem i_add (hx : x.toInt = p) (hy : y.toInt = q) (h1 : -2147483648 ≤ p + q) (h2 : p + q ≤ 2147483647) : (x + y).toInt = p + q := by
  rw [Int32.toInt_add, hx, hy]
  exact iv_bm h1 h2
theorem i_sub (hx : x.toInt = p) (hy : y.toInt = q) (h1 : -2147483648 ≤ p - q) (h2 : p - q ≤ 2147483647) : (x - y).toInt = p - q := by
  rw [Int32.toInt_sub, hx, hy]
  exact iv_bm h1 h2
theorem i_mul (hx : x.toInt = p) (hy : y.toInt = q) (h1 : -2147483648 ≤ p * q) (h2 : p * q ≤ 2147483647) : (x * y).toInt = p * q := by
  rw [Int32.toInt_mul, hx, hy]
  exact iv_bm h1 h2
theorem i_n (hk : k < 2147483648) : (nI k).toInt = k := nI_toInt hk
theorem i_nI (hx : x.toInt = (k : Int)) : x = nI k := by
  have := i_b x
  exact i_eq hx (nI_toInt (by omega)) rfl
end RT
theorem k_0 : (0 : Int32).toInt = 0 := rfl
theorem k_1 : (1 : Int32).toInt = 1 := rfl
theorem k_2 : (2 : Int32).toInt = 2 := rfl
theorem k_3 : (3 : Int32).toInt = 3 := rfl
theorem k_4 : (4 : Int32).toInt = 4 := rfl
theorem k_5 : (5 : Int32).toInt = 5 := rfl
theorem k_6 : (6 : Int32).toInt = 6 := rfl
theorem k_9 : (9 : Int32).toInt = 9 := rfl
theorem k_10 : (10 : Int32).toInt = 10 := rfl
theorem k_12 : (12 : Int32).toInt = 12 := rfl
theorem k_15 : (15 : Int32).toInt = 15 := rfl
theorem k_36 : (36 : Int32).toInt = 36 := rfl
theorem k_48 : (48 : Int32).toInt = 48 := rfl
theorem k_49 : (49 : Int32).toInt = 49 := rfl
theorem k_57 : (57 : Int32).toInt = 57 := rfl
theorem k_59 : (59 : Int32).toInt = 59 := rfl
theorem k_97 : (97 : Int32).toInt = 97 := rfl
theorem k_99 : (99 : Int32).toInt = 99 := rfl
theorem k_104 : (104 : Int32).toInt = 104 := rfl
theorem k_112 : (112 : Int32).toInt = 112 := rfl
theorem k_115 : (115 : Int32).toInt = 115 := rfl
theorem k_119 : (119 : Int32).toInt = 119 := rfl
theorem k_120 : (120 : Int32).toInt = 120 := rfl
theorem k_200 : (200 : Int32).toInt = 200 := rfl
theorem k_m1 : (-1 : Int32).toInt = -1 := rfl
theorem k_m2 : (-2 : Int32).toInt = -2 := rfl
theorem k_m3 : (-3 : Int32).toInt = -3 := rfl
/-- within, in -/
theorem w157 {x a b : Int32} : f157 x a b = if a.toInt ≤ x.toInt ∧ x.toInt ≤ b.toInt then 1 else 0 := by
  rw [f157_eq]
  by_cases c1 : x < a
  · have := Int32.lt_iff_toInt_lt.mp c1
    rw [if_pos c1, if_neg (by omega)]
  · have q1 : a.toInt ≤ x.toInt := Int.not_lt.mp (fun q => c1 (Int32.lt_iff_toInt_lt.mpr q))
    rw [if_neg c1]
    by_cases c2 : b < x
    · have := Int32.lt_iff_toInt_lt.mp c2
      rw [if_pos c2, if_neg (by omega)]
    · have q2 : x.toInt ≤ b.toInt := Int.not_lt.mp (fun q => c2 (Int32.lt_iff_toInt_lt.mpr q))
      rw [if_neg c2, if_pos (by omega)]
theorem w173 {x a b : Int32} : f173 x a b = if a.toInt ≤ x.toInt ∧ x.toInt ≤ b.toInt then 1 else 0 := by
  rw [f173_eq, ← f157_eq]
  exact w157
theorem w157_1 {x a b : Int32} {p q r : Int} (hx : x.toInt = p) (ha : a.toInt = q) (hb : b.toInt = r) (e : q ≤ p ∧ p ≤ r) : f157 x a b = 1 := by
  rw [w157, if_pos (by omega)]
theorem w157_0 {x a b : Int32} {p q r : Int} (hx : x.toInt = p) (ha : a.toInt = q) (hb : b.toInt = r) (e : ¬ (q ≤ p ∧ p ≤ r)) : f157 x a b = 0 := by
  rw [w157, if_neg (by omega)]
theorem w173_1 {x a b : Int32} {p q r : Int} (hx : x.toInt = p) (ha : a.toInt = q) (hb : b.toInt = r) (e : q ≤ p ∧ p ≤ r) : f173 x a b = 1 := by
  rw [w173, if_pos (by omega)]
theorem w173_0 {x a b : Int32} {p q r : Int} (hx : x.toInt = p) (ha : a.toInt = q) (hb : b.toInt = r) (e : ¬ (q ≤ p ∧ p ≤ r)) : f173 x a b = 0 := by
  rw [w173, if_neg (by omega)]
theorem n10 : ¬ (1 : Int32) = 0 := by decide +kernel
theorem e00 : (0 : Int32) = 0 := rfl
/-- places -/
theorem w179 {x y z : Int32} {s a b : Nat} (hx : x.toInt = (s : Int)) (hy : y.toInt = (a : Int)) (hz : z.toInt = (b : Int)) (hs : s ≤ 12) (ha : a < 6) (hb : b < 6) : (f179 x y z).toInt = ((36 * s + 6 * a + b : Nat) : Int) := by
  rw [f179_eq]
  have e1 := i_mul k_36 hx (by omega) (by omega)
  have e2 := i_mul k_6 hy (by omega) (by omega)
  have e3 := i_add e1 e2 (by omega) (by omega)
  have e4 := i_add e3 hz (by omega) (by omega)
  rw [e4]
  omega
theorem w6 {x y : Int32} {s a : Nat} (hx : x.toInt = (s : Int)) (hy : y.toInt = (a : Int)) (hs : s ≤ 12) (ha : a < 6) : (6 * x + y).toInt = ((6 * s + a : Nat) : Int) := by
  have e1 := i_mul k_6 hx (by omega) (by omega)
  have e2 := i_add e1 hy (by omega) (by omega)
  rw [e2]
  omega
/-! ===== the text is read alike: tokens ===== -/
/-- a byte of the class and of the reference -/
def rz_b (c r : Int) : Prop := 0 ≤ c ∧ c ≤ 255 ∧ r = if c ≤ 127 then c else c - 256
def rz_T (hc hr : mx_H) (L p : Nat) : Prop := L ≤ 120 ∧ p ≤ L ∧ rD hc (.inl 1) 1 = L ∧ rD hc (.inl 1) 2 = p ∧ rD hr (.inl 105) 16 = L ∧ rD hr (.inl 105) 17 = p ∧ ∀ i, i < L → rz_b (rD hc (.inl 2) i) (rD hr (.inl 118) i)
/-- one sign further -/
def rz_c (h : mx_H) : mx_H := mx_uI h (.inl 1) 2 (h.2.1 (.inl 1) 2 + 1)
def rz_r (h : mx_H) : mx_H := mx_uI h (.inl 105) 17 (h.2.1 (.inl 105) 17 + 1)
section RZ
variable {hc hr : mx_H} {L p S C n : Nat}
theorem rz_tok (t : rz_T hc hr L p) : ∃ c : Int, (f92 hc).toInt = c ∧ (f185 hr).toInt = (if c ≤ 127 then c else c - 256) ∧ -1 ≤ c ∧ c ≤ 255 ∧ (c = -1 ↔ p = L) := by
  obtain ⟨l, pl, t1, t2, t3, t4, tb⟩ := t
  rw [f92_eq, f185_eq]
  by_cases e : p = L
  · refine ⟨-1, ?_, ?_, by decide +kernel, by decide +kernel, by simp [e]⟩
    · rw [if_pos (i_le t1 t2 (by omega))]
      rfl
    · rw [if_pos (i_le t3 t4 (by omega))]
      rfl
  · obtain ⟨b1, b2, b3⟩ := tb p (by omega)
    refine ⟨rD hc (.inl 2) p, ?_, ?_, by omega, by omega, by omega⟩
    · rw [if_neg (i_nle t1 t2 (by omega)), if_neg (i_nle k_120 t2 (by omega)), i_cl t2]
    · rw [if_neg (i_nle t3 t4 (by omega)), i_cl t4]
      exact b3
theorem rz_adv (t : rz_T hc hr L p) (h : p < L) : rz_T (rz_c hc) (rz_r hr) L (p + 1) := by
  obtain ⟨l, pl, t1, t2, t3, t4, tb⟩ := t
  refine ⟨l, h, t1, ?_, t3, ?_, tb⟩
  · show (hc.2.1 (.inl 1) 2 + 1).toInt = _
    rw [i_add t2 k_1 (by omega) (by omega)]
    omega
  · show (hr.2.1 (.inl 105) 17 + 1).toInt = _
    rw [i_add t4 k_1 (by omega) (by omega)]
    omega
/-- a digit: both see it, or none -/
theorem rz_dig (t : rz_T hc hr L p) : (∃ d : Int, 1 ≤ d ∧ d ≤ 9 ∧ p < L ∧ (f93 hc).toInt = d ∧ f188 hr = (f93 hc, rz_r hr) ∧ ¬ f187 hr = 0) ∨ (f93 hc = 0 ∧ f187 hr = 0 ∧ f188 hr = (0, f186 hr)) := by
  obtain ⟨c, e1, e2, c1, c2, c3⟩ := rz_tok t
  by_cases q : 49 ≤ c ∧ c ≤ 57
  · have q1 : (f93 hc).toInt = c - 48 := by
      rw [f93_eq]
      show (if f157 (f92 hc) 49 57 = 0 then (0 : Int32) else f92 hc - 48).toInt = _
      rw [w157_1 e1 k_49 k_57 q, if_neg n10]
      exact i_sub e1 k_48 (by omega) (by omega)
    have e2' : (f185 hr).toInt = c := by rw [e2, if_pos (by omega)]
    have q2 : f187 hr = 1 := by rw [f187_eq, w173_1 e2' k_49 k_57 q]
    have q3 : f185 hr - 48 = f93 hc := i_eq (i_sub e2' k_48 (by omega) (by omega)) q1 rfl
    have pl := t.2.1
    refine Or.inl ⟨c - 48, by omega, by omega, by omega, q1, ?_, by rw [q2]; exact n10⟩
    rw [f188_eq, if_pos (by rw [q2]; exact n10), q3]
    rfl
  · have q1 : f93 hc = 0 := by
      rw [f93_eq]
      show (if f157 (f92 hc) 49 57 = 0 then (0 : Int32) else f92 hc - 48) = _
      rw [w157_0 e1 k_49 k_57 q, if_pos rfl]
    have q2 : f187 hr = 0 := by
      rw [f187_eq]
      refine w173_0 e2 k_49 k_57 ?_
      split <;> omega
    refine Or.inr ⟨q1, q2, ?_⟩
    rw [f188_eq, if_neg (by rw [q2]; exact fun q => q rfl)]
    rfl
/-- a corner's letter: both see it, or none -/
theorem rz_let (t : rz_T hc hr L p) (C6 : C ≤ 6) (S12 : S ≤ 12) (hC : rD hc (.inr (S, 0)) 0 = C) (hR : rD hr (.inl 106) S = C) (hS : rD hr (.inl 105) 1 = S) : (∃ x : Int32, ∃ k : Nat, k < C ∧ p < L ∧ x.toInt = k ∧ f94 S hc = x ∧ f189 hr = x) ∨ (f94 S hc = -1 ∧ f189 hr = -1) := by
  obtain ⟨c, e1, e2, c1, c2, c3⟩ := rz_tok t
  have pl := t.2.1
  have h1 : (f92 hc - 97).toInt = c - 97 := i_sub e1 k_97 (by omega) (by omega)
  have h2 : (hc.2.1 (.inr (S, 0)) 0 - 1).toInt = (C : Int) - 1 := i_sub hC k_1 (by omega) (by omega)
  have h3 : (hr.2.1 (.inl 106) S - 1).toInt = (C : Int) - 1 := i_sub hR k_1 (by omega) (by omega)
  have A : f94 S hc = if f157 (f92 hc - 97) 0 (hc.2.1 (.inr (S, 0)) 0 - 1) = 0 then -1 else f92 hc - 97 := by rw [f94_eq]; rfl
  have B : f189 hr = if f173 (f185 hr - 97) 0 (hr.2.1 (.inl 106) S - 1) = 0 then -1 else f185 hr - 97 := by
    rw [f189_eq]
    show (if f178 (hr.2.1 (.inl 105) 1) (f185 hr - 97) hr = 0 then (-1 : Int32) else f185 hr - 97) = _
    rw [f178_eq, i_cl hS]
  by_cases q : 0 ≤ c - 97 ∧ c - 97 ≤ (C : Int) - 1
  · have e2' : (f185 hr).toInt = c := by rw [e2, if_pos (by omega)]
    have h4 : (f185 hr - 97).toInt = c - 97 := i_sub e2' k_97 (by omega) (by omega)
    refine Or.inl ⟨f92 hc - 97, (c - 97).toNat, by omega, by omega, by omega, ?_, ?_⟩
    · rw [A, w157_1 h1 k_0 h2 q, if_neg n10]
    · rw [B, w173_1 h4 k_0 h3 q, if_neg n10]
      exact i_eq h4 h1 rfl
  · refine Or.inr ⟨?_, ?_⟩
    · rw [A, w157_0 h1 k_0 h2 q, if_pos rfl]
    · by_cases c4 : c ≤ 127
      · have e2' : (f185 hr).toInt = c := by rw [e2, if_pos c4]
        rw [B, w173_0 (i_sub e2' k_97 (by omega) (by omega)) k_0 h3 q, if_pos rfl]
      · have e2' : (f185 hr).toInt = c - 256 := by rw [e2, if_neg c4]
        rw [B, w173_0 (i_sub e2' k_97 (by omega) (by omega)) k_0 h3 (by omega), if_pos rfl]
/-- a sign is named alike -/
theorem rz_is (t : rz_T hc hr L p) {x : Int32} {z : Int} (hx : x.toInt = z) (z0 : 0 ≤ z) (z1 : z ≤ 127) : (f92 hc = x ∧ f185 hr = x ∧ p < L) ∨ (¬ f92 hc = x ∧ ¬ f185 hr = x) := by
  obtain ⟨c, e1, e2, c1, c2, c3⟩ := rz_tok t
  have pl := t.2.1
  by_cases q : c = z
  · exact Or.inl ⟨i_eq e1 hx q, i_eq e2 hx (by rw [if_pos (by omega)]; exact q), by omega⟩
  · refine Or.inr ⟨i_ne e1 hx q, i_ne e2 hx ?_⟩
    split <;> omega
end RZ
/-! ===== what a text has told so far, on both sides ===== -/
/-- piece k of what is read: from a to b -/
def rz_k (hc hr : mx_H) (S C k a b : Nat) : Prop := a < C ∧ b < C ∧ a ≠ b ∧ rD hr (.inl 119) k = a ∧ rD hr (.inl 120) k = b ∧ rD hc (.inr (S, 5)) k = (min a b : Nat) ∧ rD hc (.inr (S, 6)) k = (max a b : Nat) ∧
  hr.2.1 (.inl 113) (36 * S + 6 * a + b) = 1 ∧ hr.2.1 (.inl 113) (36 * S + 6 * b + a) = 1 ∧ hr.2.1 (.inl 111) (36 * S + 6 * a + b) = hc.2.1 (.inr (S, 7)) k ∧ hr.2.1 (.inl 111) (36 * S + 6 * b + a) = hc.2.1 (.inr (S, 7)) k ∧
  hr.2.1 (.inl 112) (36 * S + 6 * a + b) = 0 ∧ hr.2.1 (.inl 112) (36 * S + 6 * b + a) = 0 ∧ hc.2.1 (.inr (S, 8)) k = 0
def rz_g (hr : mx_H) (S : Nat) (c : Nat) : Bool := decide (hr.2.1 (.inl 113) (36 * S + c) ≠ 0)
def rz_P (hc hr : mx_H) (S C n : Nat) : Prop := (∀ k, k < n → ∃ a b : Nat, rz_k hc hr S C k a b) ∧ (∀ a b, a < 6 → b < 6 → hr.2.1 (.inl 113) (36 * S + 6 * a + b) = 0 ∨ ∃ k, k < n ∧ (rz_k hc hr S C k a b ∨ rz_k hc hr S C k b a)) ∧ n = sd_C sd_CL (rz_g hr S) ∧ ∀ k k' u v, k < n → k' < n → k ≠ k' → rz_k hc hr S C k u v → ¬ rz_k hc hr S C k' u v ∧ ¬ rz_k hc hr S C k' v u
def rz_C (hc hr : mx_H) (S C n : Nat) : Prop := C ≤ 6 ∧ rD hc (.inr (S, 0)) 0 = C ∧ rD hr (.inl 106) S = C ∧ rD hc (.inr (S, 0)) 6 = n ∧ rD hr (.inl 105) 19 = n ∧
  (∀ c, c < C → hc.2.1 (.inr (S, 1)) c = hr.2.1 (.inl 107) (6 * S + c)) ∧
  (∀ c, c < 6 → hc.2.1 (.inr (S, 2)) c = hr.2.1 (.inl 108) (6 * S + c) ∧ hc.2.1 (.inr (S, 3)) c = hr.2.1 (.inl 109) (6 * S + c) ∧ hc.2.1 (.inr (S, 4)) c = hr.2.1 (.inl 110) (6 * S + c) ∧ (hr.2.1 (.inl 121) c = 0 ↔ hc.2.1 (.inr (S, 2)) c = 0) ∧ (hr.2.1 (.inl 122) c = 0 ↔ hc.2.1 (.inr (S, 3)) c = 0)) ∧
  rz_P hc hr S C n
/-- the class changed no more than the draft and where it reads -/
def rz_FC (S : Nat) (h h' : mx_H) : Prop := h'.1 = h.1 ∧ h'.2.2 = h.2.2 ∧ (∀ k i, ¬ (k = 1 ∧ i = 2) → h'.2.1 (.inl k) i = h.2.1 (.inl k) i) ∧ ∀ s o i, ¬ (s = S ∧ o < 9 ∧ (o = 0 → i = 0 ∨ i = 6)) → h'.2.1 (.inr (s, o)) i = h.2.1 (.inr (s, o)) i
/-- the same, with all of the draft -/
def rz_FW (S : Nat) (h h' : mx_H) : Prop := h'.1 = h.1 ∧ h'.2.2 = h.2.2 ∧ (∀ k i, ¬ (k = 1 ∧ i = 2) → h'.2.1 (.inl k) i = h.2.1 (.inl k) i) ∧ ∀ s o i, ¬ (s = S ∧ o < 9) → h'.2.1 (.inr (s, o)) i = h.2.1 (.inr (s, o)) i
/-- the reference no more than its draft's places -/
def rz_w (S k i : Nat) : Prop := (k = 105 ∧ (i = 17 ∨ i = 18 ∨ i = 19)) ∨ (k = 106 ∧ i = S) ∨ ((k = 107 ∨ k = 108 ∨ k = 109 ∨ k = 110) ∧ 6 * S ≤ i ∧ i < 6 * S + 6) ∨ ((k = 111 ∨ k = 112 ∨ k = 113) ∧ 36 * S ≤ i ∧ i < 36 * S + 36) ∨ k = 119 ∨ k = 120 ∨ k = 121 ∨ k = 122
def rz_FR (S : Nat) (h h' : mx_H) : Prop := h'.1 = h.1 ∧ h'.2.2 = h.2.2 ∧ (∀ q i, h'.2.1 (.inr q) i = h.2.1 (.inr q) i) ∧ ∀ k i, ¬ rz_w S k i → h'.2.1 (.inl k) i = h.2.1 (.inl k) i
theorem rz_FC.refl {S : Nat} {h : mx_H} : rz_FC S h h := ⟨rfl, rfl, fun _ _ _ => rfl, fun _ _ _ _ => rfl⟩
theorem rz_FC.trans {S : Nat} {h h' h'' : mx_H} (a : rz_FC S h h') (b : rz_FC S h' h'') : rz_FC S h h'' := ⟨b.1.trans a.1, b.2.1.trans a.2.1, fun k i q => (b.2.2.1 k i q).trans (a.2.2.1 k i q), fun s o i q => (b.2.2.2 s o i q).trans (a.2.2.2 s o i q)⟩
theorem rz_FC.c {S : Nat} {h h' : mx_H} {v : Int32} (a : rz_FC S h h') : rz_FC S h (mx_uI h' (.inl 1) 2 v) := ⟨a.1, a.2.1, fun k i q => (if_neg (fun e => q ⟨Sum.inl.inj e.1, e.2⟩)).trans (a.2.2.1 k i q), fun s o i q => a.2.2.2 s o i q⟩
theorem rz_FC.s {S o i : Nat} {h h' : mx_H} {v : Int32} (ho : o < 9) (a : rz_FC S h h') (hi : o = 0 → i = 0 ∨ i = 6 := by intro _; omega) : rz_FC S h (mx_uI h' (.inr (S, o)) i v) := ⟨a.1, a.2.1, fun k j q => a.2.2.1 k j q, fun s o' j q => (if_neg (fun e => by
  obtain ⟨e1, e2⟩ := e
  cases e1
  subst e2
  exact q ⟨rfl, ho, hi⟩)).trans (a.2.2.2 s o' j q)⟩
theorem rz_FW.refl {S : Nat} {h : mx_H} : rz_FW S h h := ⟨rfl, rfl, fun _ _ _ => rfl, fun _ _ _ _ => rfl⟩
theorem rz_FW.trans {S : Nat} {h h' h'' : mx_H} (a : rz_FW S h h') (b : rz_FW S h' h'') : rz_FW S h h'' := ⟨b.1.trans a.1, b.2.1.trans a.2.1, fun k i q => (b.2.2.1 k i q).trans (a.2.2.1 k i q), fun s o i q => (b.2.2.2 s o i q).trans (a.2.2.2 s o i q)⟩
theorem rz_FW.c {S : Nat} {h h' : mx_H} {v : Int32} (a : rz_FW S h h') : rz_FW S h (mx_uI h' (.inl 1) 2 v) := ⟨a.1, a.2.1, fun k i q => (if_neg (fun e => q ⟨Sum.inl.inj e.1, e.2⟩)).trans (a.2.2.1 k i q), fun s o i q => a.2.2.2 s o i q⟩
theorem rz_FW.s {S o i : Nat} {h h' : mx_H} {v : Int32} (ho : o < 9) (a : rz_FW S h h') : rz_FW S h (mx_uI h' (.inr (S, o)) i v) := ⟨a.1, a.2.1, fun k j q => a.2.2.1 k j q, fun s o' j q => (if_neg (fun e => by
  obtain ⟨e1, -⟩ := e
  cases e1
  exact q ⟨rfl, ho⟩)).trans (a.2.2.2 s o' j q)⟩
theorem rz_FC.w {S : Nat} {h h' : mx_H} (a : rz_FC S h h') : rz_FW S h h' := ⟨a.1, a.2.1, a.2.2.1, fun s o i q => a.2.2.2 s o i (fun e => q ⟨e.1, e.2.1⟩)⟩
theorem rz_FR.refl {S : Nat} {h : mx_H} : rz_FR S h h := ⟨rfl, rfl, fun _ _ => rfl, fun _ _ _ => rfl⟩
theorem rz_FR.trans {S : Nat} {h h' h'' : mx_H} (a : rz_FR S h h') (b : rz_FR S h' h'') : rz_FR S h h'' := ⟨b.1.trans a.1, b.2.1.trans a.2.1, fun q i => (b.2.2.1 q i).trans (a.2.2.1 q i), fun k i q => (b.2.2.2 k i q).trans (a.2.2.2 k i q)⟩
theorem rz_FR.u {S k i : Nat} {h h' : mx_H} {v : Int32} (hw : rz_w S k i) (a : rz_FR S h h') : rz_FR S h (mx_uI h' (.inl k) i v) := ⟨a.1, a.2.1, fun q j => a.2.2.1 q j, fun k' j q => (if_neg (fun e => by
  obtain ⟨e1, e2⟩ := e
  cases e1
  subst e2
  exact q hw)).trans (a.2.2.2 k' j q)⟩
/-! ===== the parts of a text, on both sides ===== -/
theorem rS {h : mx_H} {S o o' i : Nat} {v : Int32} (ho : o ≠ o') : (mx_uI h (.inr (S, o')) i v).2.1 (.inr (S, o)) = h.2.1 (.inr (S, o)) := funext fun _ => rI_a (ne_oo ho)
theorem rN {h : mx_H} {k k' i : Nat} {v : Int32} (hk : k ≠ k') : (mx_uI h (.inl k') i v).2.1 (.inl k) = h.2.1 (.inl k) := funext fun _ => rI_a (fun e => hk (Sum.inl.inj e))
theorem rLR {h : mx_H} {k i : Nat} {q : Nat × Nat} {v : Int32} : (mx_uI h (.inr q) i v).2.1 (.inl k) = h.2.1 (.inl k) := rfl
theorem rRL {h : mx_H} {k i : Nat} {q : Nat × Nat} {v : Int32} : (mx_uI h (.inl k) i v).2.1 (.inr q) = h.2.1 (.inr q) := rfl
theorem rz_P.x {hc hc' hr hr' : mx_H} {S C n : Nat} (e5 : hc'.2.1 (.inr (S, 5)) = hc.2.1 (.inr (S, 5))) (e6 : hc'.2.1 (.inr (S, 6)) = hc.2.1 (.inr (S, 6))) (e7 : hc'.2.1 (.inr (S, 7)) = hc.2.1 (.inr (S, 7))) (e8 : hc'.2.1 (.inr (S, 8)) = hc.2.1 (.inr (S, 8)))
    (r1 : hr'.2.1 (.inl 119) = hr.2.1 (.inl 119)) (r2 : hr'.2.1 (.inl 120) = hr.2.1 (.inl 120)) (r3 : hr'.2.1 (.inl 113) = hr.2.1 (.inl 113)) (r4 : hr'.2.1 (.inl 111) = hr.2.1 (.inl 111)) (r5 : hr'.2.1 (.inl 112) = hr.2.1 (.inl 112)) (P : rz_P hc hr S C n) : rz_P hc' hr' S C n := by
  unfold rz_P rz_k rz_g rD at P ⊢
  rw [e5, e6, e7, e8, r1, r2, r3, r4, r5]
  exact P
/-- how a part ends: alike on both sides -/
def rz_O (S L C p : Nat) (hc hr : mx_H) (r : Int32 × mx_H) (hr' : mx_H) : Prop :=
  rz_FC S hc r.2 ∧ rz_FR S hr hr' ∧ ((¬ r.1 = 0 ∧ rD hr' (.inl 105) 18 = -1 ∧ ∃ p' n', p < p' ∧ rz_T r.2 hr' L p' ∧ rz_C r.2 hr' S C n') ∨ (r.1 = 0 ∧ 0 ≤ rD hr' (.inl 105) 18 ∧ 0 ≤ rD r.2 (.inl 1) 2))
theorem G34 (a1 : Int32) (h : mx_H) : g191_34 a1 h = if a1 ≠ 112 then (if f189 (rz_r h) < 0 then g191_121 a1 (f189 (rz_r h)) (rz_r h) else if a1 ≠ 115 then (if a1 ≠ 119 then (if (rz_r h).2.1 (.inl 110) (Int32.toNatClampNeg (6 * h.2.1 (.inl 105) 1 + f189 (rz_r h))) = 0 then g191_121 a1 (f189 (rz_r h)) (rz_r h) else g191_117 a1 (f189 (rz_r h)) (rz_r h)) else (if (rz_r h).2.1 (.inl 122) (Int32.toNatClampNeg (f189 (rz_r h))) = 0 then g191_121 a1 (f189 (rz_r h)) (rz_r h) else g191_117 a1 (f189 (rz_r h)) (rz_r h))) else (if (rz_r h).2.1 (.inl 121) (Int32.toNatClampNeg (f189 (rz_r h))) = 0 then g191_121 a1 (f189 (rz_r h)) (rz_r h) else g191_117 a1 (f189 (rz_r h)) (rz_r h))) else f190 (rz_r h) := g191_34_eq a1 h
theorem G131 (h : mx_H) : g191_131 h = f186 h := g191_131_eq h
theorem G117 (a1 a2 : Int32) (h : mx_H) : g191_117 a1 a2 h = f186 h := by
  rw [g191_117_eq, if_neg (show ¬ (1 : Int32) = 0 by decide +kernel), ite_self, G131]
theorem G121 (a1 a2 : Int32) (h : mx_H) : g191_121 a1 a2 h = if a2 < 0 then f186 h else if a1 ≠ 104 then (x_let (f188 (rz_r h)) (fun x3 h2 => if h2.2.1 (.inl 105) 18 < 0 then (if a1 ≠ 115 then mx_uI (mx_uI h2 (.inl 109) (Int32.toNatClampNeg (6 * h.2.1 (.inl 105) 1 + a2)) x3) (.inl 122) (Int32.toNatClampNeg a2) 1 else mx_uI (mx_uI h2 (.inl 108) (Int32.toNatClampNeg (6 * h.2.1 (.inl 105) 1 + a2)) x3) (.inl 121) (Int32.toNatClampNeg a2) 1) else h2)) else mx_uI (rz_r h) (.inl 110) (Int32.toNatClampNeg (6 * h.2.1 (.inl 105) 1 + a2)) 1 := by
  rw [g191_121_eq, if_pos (show (0 : Int32) = 0 from rfl), G131]
  rfl
section RP
variable {hc hr : mx_H} {L p S C n : Nat}
theorem G186 (hF : rD hr (.inl 105) 18 = -1) : f186 hr = mx_uI hr (.inl 105) 18 (hr.2.1 (.inl 105) 17) := by
  rw [f186_eq, if_neg (i_nle k_0 hF (by omega))]
theorem rz_bad {hr0 : mx_H} {r : Int32 × mx_H} (t : rz_T hc hr L p) (hF : rD hr (.inl 105) 18 = -1) (a : rz_FC S hc r.2) (b : rz_FR S hr0 hr) (e : r = (0, hc)) {p0 : Nat} {hc0 : mx_H} (a0 : rz_FC S hc0 r.2) : rz_O S L C p0 hc0 hr0 r (f186 hr) := by
  subst e
  refine ⟨a0, ?_, Or.inr ⟨rfl, ?_, ?_⟩⟩
  · rw [G186 hF]
    exact b.u (Or.inl ⟨rfl, Or.inr (Or.inl rfl)⟩)
  · rw [G186 hF]
    show 0 ≤ rD hr (.inl 105) 17
    rw [t.2.2.2.2.2.1]
    omega
  · show 0 ≤ rD hc (.inl 1) 2
    rw [t.2.2.2.1]
    omega
theorem rz_FRr {hr0 : mx_H} (b : rz_FR S hr0 hr) : rz_FR S hr0 (rz_r hr) := b.u (Or.inl ⟨rfl, Or.inl rfl⟩)
theorem rz_FCc {hc0 : mx_H} (a : rz_FC S hc0 hc) : rz_FC S hc0 (rz_c hc) := a.c
theorem rz_Cr (K : rz_C hc hr S C n) : rz_C hc (rz_r hr) S C n := K
theorem rz_Cc (K : rz_C hc hr S C n) : rz_C (rz_c hc) hr S C n := K
/-- h: a hold -/
theorem rz_hold (t : rz_T hc (rz_r hr) L p) (K : rz_C hc (rz_r hr) S C n) (hF : rD hr (.inl 105) 18 = -1) (hS : rD hr (.inl 105) 1 = S) (S11 : S ≤ 12) : rz_O S L C p hc hr (f90 S hc) (g191_34 104 hr) := by
  have hF' : rD (rz_r hr) (.inl 105) 18 = -1 := hF
  have hS' : rD (rz_r hr) (.inl 105) 1 = S := hS
  obtain ⟨C6, k1, k2, k3, k4, k5, k6, kP⟩ := id K
  rw [G34, if_pos (show (104 : Int32) ≠ 112 by decide +kernel), if_pos (show (104 : Int32) ≠ 115 by decide +kernel), if_pos (show (104 : Int32) ≠ 119 by decide +kernel)]
  show rz_O S L C p hc hr (f90 S hc) (if f189 (rz_r hr) < 0 then g191_121 104 (f189 (rz_r hr)) (rz_r hr) else if (rz_r hr).2.1 (.inl 110) (Int32.toNatClampNeg (6 * hr.2.1 (.inl 105) 1 + f189 (rz_r hr))) = 0 then g191_121 104 (f189 (rz_r hr)) (rz_r hr) else g191_117 104 (f189 (rz_r hr)) (rz_r hr))
  have Cq : f90 S hc = if f94 S hc < 0 then (0, hc) else if hc.2.1 (.inr (S, 4)) (Int32.toNatClampNeg (f94 S hc)) = 0 then (1, mx_uI (rz_c hc) (.inr (S, 4)) (Int32.toNatClampNeg (f94 S hc)) 1) else (0, hc) := f90_eq S hc
  rcases rz_let t C6 (by omega) k1 k2 hS' with ⟨x, k, hk, pl, hx, e1, e2⟩ | ⟨e1, e2⟩
  · have w := w6 hS hx (by omega) (by omega)
    have kk := k6 k (by omega)
    rw [e2, if_neg (i_nlt hx k_0 (by omega)), i_cl w, G121, if_neg (i_nlt hx k_0 (by omega)), if_neg (show ¬ (104 : Int32) ≠ 104 from fun q => q rfl), G117]
    rw [e1, if_neg (i_nlt hx k_0 (by omega)), i_cl hx] at Cq
    by_cases z : hc.2.1 (.inr (S, 4)) k = 0
    · rw [if_pos (by rw [← kk.2.2.1]; exact z)]
      rw [if_pos z] at Cq
      rw [Cq]
      refine ⟨(rz_FCc rz_FC.refl).s (by decide +kernel), ?_, Or.inl ⟨n10, hF, p + 1, n, by omega, ?_, ?_⟩⟩
      · refine (rz_FRr (rz_FRr rz_FR.refl)).u (Or.inr (Or.inr (Or.inl ⟨by omega, ?_⟩)))
        have := i_cl (x := 6 * (rz_r hr).2.1 (.inl 105) 1 + x) w
        omega
      · exact rz_adv t pl
      · show rz_C (mx_uI (rz_c hc) (.inr (S, 4)) k 1) (mx_uI (rz_r (rz_r hr)) (.inl 110) (Int32.toNatClampNeg (6 * hr.2.1 (.inl 105) 1 + x)) 1) S C n
        rw [i_cl w]
        refine ⟨C6, ?_, k2, ?_, k4, fun c q => ?_, fun c q => ?_, rz_P.x (rS (by decide +kernel)) (rS (by decide +kernel)) (rS (by decide +kernel)) (rS (by decide +kernel)) rfl rfl rfl rfl rfl kP⟩
        · unfold rD
          rw [rS (by decide +kernel)]
          exact k1
        · unfold rD
          rw [rS (by decide +kernel)]
          exact k3
        · rw [rS (by decide +kernel)]
          exact k5 c q
        · obtain ⟨c1, c2, c3, c4, c5⟩ := k6 c q
          rw [rS (show 2 ≠ 4 by decide +kernel), rS (show 3 ≠ 4 by decide +kernel)]
          refine ⟨c1, c2, ?_, c4, c5⟩
          by_cases e : c = k
          · subst e
            rw [rI_s, rI_s]
          · rw [rI_i e, rI_i (by omega)]
            exact c3
    · rw [if_neg (by rw [← kk.2.2.1]; exact z)]
      rw [if_neg z] at Cq
      rw [Cq]
      exact rz_bad (C := C) t hF' rz_FC.refl (rz_FRr rz_FR.refl) rfl rz_FC.refl
  · rw [e2, if_pos (show (-1 : Int32) < 0 by decide +kernel), G121, if_pos (show (-1 : Int32) < 0 by decide +kernel)]
    rw [e1, if_pos (show (-1 : Int32) < 0 by decide +kernel)] at Cq
    rw [Cq]
    exact rz_bad (C := C) t hF' rz_FC.refl (rz_FRr rz_FR.refl) rfl rz_FC.refl
/-- 115: a pad -/
theorem rz_pad (t : rz_T hc (rz_r hr) L p) (K : rz_C hc (rz_r hr) S C n) (hF : rD hr (.inl 105) 18 = -1) (hS : rD hr (.inl 105) 1 = S) (S11 : S ≤ 12) : rz_O S L C p hc hr (f91 S (.inr (S, 2)) hc) (g191_34 115 hr) := by
  have hF' : rD (rz_r hr) (.inl 105) 18 = -1 := hF
  have hS' : rD (rz_r hr) (.inl 105) 1 = S := hS
  obtain ⟨C6, k1, k2, k3, k4, k5, k6, kP⟩ := id K
  rw [G34, if_pos (show (115 : Int32) ≠ 112 by decide +kernel), if_neg (show ¬ (115 : Int32) ≠ 115 from fun q => q rfl)]
  show rz_O S L C p hc hr (f91 S (.inr (S, 2)) hc) (if f189 (rz_r hr) < 0 then g191_121 115 (f189 (rz_r hr)) (rz_r hr) else if (rz_r hr).2.1 (.inl 121) (Int32.toNatClampNeg (f189 (rz_r hr))) = 0 then g191_121 115 (f189 (rz_r hr)) (rz_r hr) else g191_117 115 (f189 (rz_r hr)) (rz_r hr))
  have Cq : f91 S (.inr (S, 2)) hc = if f94 S hc < 0 then (0, hc) else if hc.2.1 (.inr (S, 2)) (Int32.toNatClampNeg (f94 S hc)) = 0 then (if f93 (rz_c hc) ≠ 0 then (1, rz_c (mx_uI (rz_c hc) (.inr (S, 2)) (Int32.toNatClampNeg (f94 S hc)) (f93 (rz_c hc)))) else (0, rz_c hc)) else (0, hc) := f91_eq S (.inr (S, 2)) hc
  rcases rz_let t C6 (by omega) k1 k2 hS' with ⟨x, k, hk, pl, hx, e1, e2⟩ | ⟨e1, e2⟩
  · have w := w6 hS hx (by omega) (by omega)
    have kk := k6 k (by omega)
    have t' := rz_adv t pl
    rw [e2, if_neg (i_nlt hx k_0 (by omega)), i_cl hx, G121, if_neg (i_nlt hx k_0 (by omega)), if_pos (show (115 : Int32) ≠ 104 by decide +kernel), G117]
    rw [e1, if_neg (i_nlt hx k_0 (by omega)), i_cl hx] at Cq
    by_cases z : hc.2.1 (.inr (S, 2)) k = 0
    · rw [if_pos (kk.2.2.2.1.mpr z)]
      rw [if_pos z] at Cq
      rcases rz_dig t' with ⟨d, d1, d9, pl', dv, d8, -⟩ | ⟨d0, -, d8⟩
      · rw [if_pos (i_ne dv k_0 (by omega))] at Cq
        rw [Cq, d8]
        have w' : (6 * (rz_r hr).2.1 (.inl 105) 1 + x).toInt = ((6 * S + k : Nat) : Int) := w
        show rz_O S L C p hc hr _ (if (rz_r (rz_r (rz_r hr))).2.1 (.inl 105) 18 < 0 then _ else _)
        rw [if_pos (i_lt (show ((rz_r (rz_r (rz_r hr))).2.1 (.inl 105) 18).toInt = -1 from hF) k_0 (by omega)), if_neg (show ¬ (115 : Int32) ≠ 115 from fun q => q rfl), i_cl hx, i_cl w']
        refine ⟨rz_FCc ((rz_FCc rz_FC.refl).s (by decide +kernel)), ((rz_FRr (rz_FRr (rz_FRr rz_FR.refl))).u (Or.inr (Or.inr (Or.inl ⟨by omega, by omega, by omega⟩)))).u (by unfold rz_w; omega), Or.inl ⟨n10, hF, p + 2, n, by omega, rz_adv t' pl', ?_⟩⟩
        refine ⟨C6, ?_, k2, ?_, k4, fun c q => ?_, fun c q => ?_, rz_P.x (rS (by decide +kernel)) (rS (by decide +kernel)) (rS (by decide +kernel)) (rS (by decide +kernel)) rfl rfl rfl rfl rfl kP⟩
        · show ((mx_uI (rz_c hc) (.inr (S, 2)) k (f93 (rz_c hc))).2.1 (.inr (S, 0)) 0).toInt = _
          rw [rS (by decide +kernel)]
          exact k1
        · show ((mx_uI (rz_c hc) (.inr (S, 2)) k (f93 (rz_c hc))).2.1 (.inr (S, 0)) 6).toInt = _
          rw [rS (by decide +kernel)]
          exact k3
        · show (mx_uI (rz_c hc) (.inr (S, 2)) k (f93 (rz_c hc))).2.1 (.inr (S, 1)) c = _
          rw [rS (by decide +kernel)]
          exact k5 c q
        · obtain ⟨c1, c2, c3, c4, c5⟩ := k6 c q
          have dn : ¬ f93 (rz_c hc) = 0 := i_ne dv k_0 (by omega)
          show (mx_uI (rz_c hc) (.inr (S, 2)) k (f93 (rz_c hc))).2.1 (.inr (S, 2)) c = (mx_uI (rz_r (rz_r (rz_r hr))) (.inl 108) (6 * S + k) (f93 (rz_c hc))).2.1 (.inl 108) (6 * S + c) ∧ (mx_uI (rz_c hc) (.inr (S, 2)) k (f93 (rz_c hc))).2.1 (.inr (S, 3)) c = (mx_uI (rz_r (rz_r (rz_r hr))) (.inl 108) (6 * S + k) (f93 (rz_c hc))).2.1 (.inl 109) (6 * S + c) ∧ (mx_uI (rz_c hc) (.inr (S, 2)) k (f93 (rz_c hc))).2.1 (.inr (S, 4)) c = hr.2.1 (.inl 110) (6 * S + c) ∧ ((mx_uI (rz_r (rz_r (rz_r hr))) (.inl 121) k 1).2.1 (.inl 121) c = 0 ↔ (mx_uI (rz_c hc) (.inr (S, 2)) k (f93 (rz_c hc))).2.1 (.inr (S, 2)) c = 0) ∧ ((mx_uI (rz_r (rz_r (rz_r hr))) (.inl 121) k 1).2.1 (.inl 122) c = 0 ↔ (mx_uI (rz_c hc) (.inr (S, 2)) k (f93 (rz_c hc))).2.1 (.inr (S, 3)) c = 0)
          rw [rS (show 3 ≠ 2 by decide +kernel), rS (show 4 ≠ 2 by decide +kernel)]
          by_cases e : c = k
          · subst e
            rw [rI_s, rI_s, rI_s]
            exact ⟨rfl, c2, c3, ⟨fun q => absurd q n10, fun q => absurd q dn⟩, c5⟩
          · rw [rI_i e, rI_i (show 6 * S + c ≠ 6 * S + k by omega), rI_i e]
            exact ⟨c1, c2, c3, c4, c5⟩
      · rw [if_neg (fun q => q d0)] at Cq
        rw [Cq, d8]
        have hF2 : rD (rz_r (rz_r hr)) (.inl 105) 18 = -1 := hF
        have e9 : ¬ (f186 (rz_r (rz_r hr))).2.1 (.inl 105) 18 < 0 := by
          rw [G186 hF2, rI_s]
          exact i_nlt t'.2.2.2.2.2.1 k_0 (by omega)
        show rz_O S L C p hc hr _ (if (f186 (rz_r (rz_r hr))).2.1 (.inl 105) 18 < 0 then _ else f186 (rz_r (rz_r hr)))
        rw [if_neg e9]
        exact rz_bad (C := C) t' hF2 (rz_FC.refl) (rz_FRr (rz_FRr rz_FR.refl)) rfl (rz_FCc rz_FC.refl)
    · rw [if_neg (fun q => z (kk.2.2.2.1.mp q))]
      rw [if_neg z] at Cq
      rw [Cq]
      exact rz_bad (C := C) t hF' rz_FC.refl (rz_FRr rz_FR.refl) rfl rz_FC.refl
  · rw [e2, if_pos (show (-1 : Int32) < 0 by decide +kernel), G121, if_pos (show (-1 : Int32) < 0 by decide +kernel)]
    rw [e1, if_pos (show (-1 : Int32) < 0 by decide +kernel)] at Cq
    rw [Cq]
    exact rz_bad (C := C) t hF' rz_FC.refl (rz_FRr rz_FR.refl) rfl rz_FC.refl
/-- 119: a weight -/
theorem rz_wgt (t : rz_T hc (rz_r hr) L p) (K : rz_C hc (rz_r hr) S C n) (hF : rD hr (.inl 105) 18 = -1) (hS : rD hr (.inl 105) 1 = S) (S11 : S ≤ 12) : rz_O S L C p hc hr (f91 S (.inr (S, 3)) hc) (g191_34 119 hr) := by
  have hF' : rD (rz_r hr) (.inl 105) 18 = -1 := hF
  have hS' : rD (rz_r hr) (.inl 105) 1 = S := hS
  obtain ⟨C6, k1, k2, k3, k4, k5, k6, kP⟩ := id K
  rw [G34, if_pos (show (119 : Int32) ≠ 112 by decide +kernel), if_pos (show (119 : Int32) ≠ 115 by decide +kernel), if_neg (show ¬ (119 : Int32) ≠ 119 from fun q => q rfl)]
  show rz_O S L C p hc hr (f91 S (.inr (S, 3)) hc) (if f189 (rz_r hr) < 0 then g191_121 119 (f189 (rz_r hr)) (rz_r hr) else if (rz_r hr).2.1 (.inl 122) (Int32.toNatClampNeg (f189 (rz_r hr))) = 0 then g191_121 119 (f189 (rz_r hr)) (rz_r hr) else g191_117 119 (f189 (rz_r hr)) (rz_r hr))
  have Cq : f91 S (.inr (S, 3)) hc = if f94 S hc < 0 then (0, hc) else if hc.2.1 (.inr (S, 3)) (Int32.toNatClampNeg (f94 S hc)) = 0 then (if f93 (rz_c hc) ≠ 0 then (1, rz_c (mx_uI (rz_c hc) (.inr (S, 3)) (Int32.toNatClampNeg (f94 S hc)) (f93 (rz_c hc)))) else (0, rz_c hc)) else (0, hc) := f91_eq S (.inr (S, 3)) hc
  rcases rz_let t C6 (by omega) k1 k2 hS' with ⟨x, k, hk, pl, hx, e1, e2⟩ | ⟨e1, e2⟩
  · have w := w6 hS hx (by omega) (by omega)
    have kk := k6 k (by omega)
    have t' := rz_adv t pl
    rw [e2, if_neg (i_nlt hx k_0 (by omega)), i_cl hx, G121, if_neg (i_nlt hx k_0 (by omega)), if_pos (show (119 : Int32) ≠ 104 by decide +kernel), G117]
    rw [e1, if_neg (i_nlt hx k_0 (by omega)), i_cl hx] at Cq
    by_cases z : hc.2.1 (.inr (S, 3)) k = 0
    · rw [if_pos (kk.2.2.2.2.mpr z)]
      rw [if_pos z] at Cq
      rcases rz_dig t' with ⟨d, d1, d9, pl', dv, d8, -⟩ | ⟨d0, -, d8⟩
      · rw [if_pos (i_ne dv k_0 (by omega))] at Cq
        rw [Cq, d8]
        have w' : (6 * (rz_r hr).2.1 (.inl 105) 1 + x).toInt = ((6 * S + k : Nat) : Int) := w
        show rz_O S L C p hc hr _ (if (rz_r (rz_r (rz_r hr))).2.1 (.inl 105) 18 < 0 then _ else _)
        rw [if_pos (i_lt (show ((rz_r (rz_r (rz_r hr))).2.1 (.inl 105) 18).toInt = -1 from hF) k_0 (by omega)), if_pos (show (119 : Int32) ≠ 115 by decide +kernel), i_cl hx, i_cl w']
        refine ⟨rz_FCc ((rz_FCc rz_FC.refl).s (by decide +kernel)), ((rz_FRr (rz_FRr (rz_FRr rz_FR.refl))).u (Or.inr (Or.inr (Or.inl ⟨by omega, by omega, by omega⟩)))).u (by unfold rz_w; omega), Or.inl ⟨n10, hF, p + 2, n, by omega, rz_adv t' pl', ?_⟩⟩
        refine ⟨C6, ?_, k2, ?_, k4, fun c q => ?_, fun c q => ?_, rz_P.x (rS (by decide +kernel)) (rS (by decide +kernel)) (rS (by decide +kernel)) (rS (by decide +kernel)) rfl rfl rfl rfl rfl kP⟩
        · show ((mx_uI (rz_c hc) (.inr (S, 3)) k (f93 (rz_c hc))).2.1 (.inr (S, 0)) 0).toInt = _
          rw [rS (by decide +kernel)]
          exact k1
        · show ((mx_uI (rz_c hc) (.inr (S, 3)) k (f93 (rz_c hc))).2.1 (.inr (S, 0)) 6).toInt = _
          rw [rS (by decide +kernel)]
          exact k3
        · show (mx_uI (rz_c hc) (.inr (S, 3)) k (f93 (rz_c hc))).2.1 (.inr (S, 1)) c = _
          rw [rS (by decide +kernel)]
          exact k5 c q
        · obtain ⟨c1, c2, c3, c4, c5⟩ := k6 c q
          have dn : ¬ f93 (rz_c hc) = 0 := i_ne dv k_0 (by omega)
          show (mx_uI (rz_c hc) (.inr (S, 3)) k (f93 (rz_c hc))).2.1 (.inr (S, 2)) c = (mx_uI (rz_r (rz_r (rz_r hr))) (.inl 109) (6 * S + k) (f93 (rz_c hc))).2.1 (.inl 108) (6 * S + c) ∧ (mx_uI (rz_c hc) (.inr (S, 3)) k (f93 (rz_c hc))).2.1 (.inr (S, 3)) c = (mx_uI (rz_r (rz_r (rz_r hr))) (.inl 109) (6 * S + k) (f93 (rz_c hc))).2.1 (.inl 109) (6 * S + c) ∧ (mx_uI (rz_c hc) (.inr (S, 3)) k (f93 (rz_c hc))).2.1 (.inr (S, 4)) c = hr.2.1 (.inl 110) (6 * S + c) ∧ ((mx_uI (rz_r (rz_r (rz_r hr))) (.inl 122) k 1).2.1 (.inl 121) c = 0 ↔ (mx_uI (rz_c hc) (.inr (S, 3)) k (f93 (rz_c hc))).2.1 (.inr (S, 2)) c = 0) ∧ ((mx_uI (rz_r (rz_r (rz_r hr))) (.inl 122) k 1).2.1 (.inl 122) c = 0 ↔ (mx_uI (rz_c hc) (.inr (S, 3)) k (f93 (rz_c hc))).2.1 (.inr (S, 3)) c = 0)
          rw [rS (show 2 ≠ 3 by decide +kernel), rS (show 4 ≠ 3 by decide +kernel)]
          by_cases e : c = k
          · subst e
            rw [rI_s, rI_s, rI_s]
            exact ⟨c1, rfl, c3, c4, ⟨fun q => absurd q n10, fun q => absurd q dn⟩⟩
          · rw [rI_i (b := .inr (S, 3)) e, rI_i (b := .inl 109) (show 6 * S + c ≠ 6 * S + k by omega), rI_i (b := .inl 122) e]
            exact ⟨c1, c2, c3, c4, c5⟩
      · rw [if_neg (fun q => q d0)] at Cq
        rw [Cq, d8]
        have hF2 : rD (rz_r (rz_r hr)) (.inl 105) 18 = -1 := hF
        have e9 : ¬ (f186 (rz_r (rz_r hr))).2.1 (.inl 105) 18 < 0 := by
          rw [G186 hF2, rI_s]
          exact i_nlt t'.2.2.2.2.2.1 k_0 (by omega)
        show rz_O S L C p hc hr _ (if (f186 (rz_r (rz_r hr))).2.1 (.inl 105) 18 < 0 then _ else f186 (rz_r (rz_r hr)))
        rw [if_neg e9]
        exact rz_bad (C := C) t' hF2 (rz_FC.refl) (rz_FRr (rz_FRr rz_FR.refl)) rfl (rz_FCc rz_FC.refl)
    · rw [if_neg (fun q => z (kk.2.2.2.2.mp q))]
      rw [if_neg z] at Cq
      rw [Cq]
      exact rz_bad (C := C) t hF' rz_FC.refl (rz_FRr rz_FR.refl) rfl rz_FC.refl
  · rw [e2, if_pos (show (-1 : Int32) < 0 by decide +kernel), G121, if_pos (show (-1 : Int32) < 0 by decide +kernel)]
    rw [e1, if_pos (show (-1 : Int32) < 0 by decide +kernel)] at Cq
    rw [Cq]
    exact rz_bad (C := C) t hF' rz_FC.refl (rz_FRr rz_FR.refl) rfl rz_FC.refl
end RP
/-! ===== a piece, on both sides ===== -/
section RQ
variable {hc hr h : mx_H} {L p S C n : Nat}
/-- pieceBetween -/
def k_mn (a b : Int32) : Int32 := if b < a then b else a
def k_mx (a b : Int32) : Int32 := if a < b then b else a
theorem k61g {a b : Int32} (hn : rD h (.inr (S, 0)) 6 = n) (n15 : n ≤ 15) : ∀ (j k : Nat) (x : Int32), k + j = n → x.toInt = k →
    (∃ q, k ≤ q ∧ q < n ∧ h.2.1 (.inr (S, 5)) q = k_mn a b ∧ h.2.1 (.inr (S, 6)) q = k_mx a b ∧ (g61_2 S a b x h).toInt = q) ∨ ((∀ q, k ≤ q → q < n → ¬ (h.2.1 (.inr (S, 5)) q = k_mn a b ∧ h.2.1 (.inr (S, 6)) q = k_mx a b)) ∧ g61_2 S a b x h = -1)
  | 0, k, x, e, hx => by
    refine Or.inr ⟨fun q q1 q2 => by omega, ?_⟩
    rw [g61_2_eq, if_pos (i_le hn hx (by omega))]
  | j + 1, k, x, e, hx => by
    have ih := k61g (a := a) (b := b) hn n15 j (k + 1) (x + 1) (by omega) (by rw [i_add hx k_1 (by omega) (by omega)]; omega)
    rw [g61_2_eq, if_neg (i_nle hn hx (by omega)), i_cl hx]
    have nxt : ¬ (h.2.1 (.inr (S, 5)) k = k_mn a b ∧ h.2.1 (.inr (S, 6)) k = k_mx a b) → (∃ q, k ≤ q ∧ q < n ∧ h.2.1 (.inr (S, 5)) q = k_mn a b ∧ h.2.1 (.inr (S, 6)) q = k_mx a b ∧ (g61_2 S a b (x + 1) h).toInt = q) ∨ ((∀ q, k ≤ q → q < n → ¬ (h.2.1 (.inr (S, 5)) q = k_mn a b ∧ h.2.1 (.inr (S, 6)) q = k_mx a b)) ∧ g61_2 S a b (x + 1) h = -1) := fun z => by
      rcases ih with ⟨q, q1, q2, q3⟩ | ⟨q1, q2⟩
      · exact Or.inl ⟨q, by omega, q2, q3⟩
      · refine Or.inr ⟨fun q z1 z2 => ?_, q2⟩
        by_cases e2 : q = k
        · subst e2
          exact z
        · exact q1 q (by omega) z2
    by_cases c1 : h.2.1 (.inr (S, 5)) k = k_mn a b
    · rw [if_neg (show ¬ h.2.1 (.inr (S, 5)) k ≠ (if b < a then b else a) from fun q => q c1)]
      by_cases c2 : h.2.1 (.inr (S, 6)) k = k_mx a b
      · rw [if_neg (show ¬ h.2.1 (.inr (S, 6)) k ≠ (if a < b then b else a) from fun q => q c2)]
        exact Or.inl ⟨k, Nat.le_refl _, by omega, c1, c2, hx⟩
      · rw [if_pos (show h.2.1 (.inr (S, 6)) k ≠ (if a < b then b else a) from c2)]
        exact nxt (fun q => c2 q.2)
    · rw [if_pos (show h.2.1 (.inr (S, 5)) k ≠ (if b < a then b else a) from c1)]
      exact nxt (fun q => c1 q.1)
theorem k61 {a b : Int32} (hn : rD h (.inr (S, 0)) 6 = n) (n15 : n ≤ 15) : (∃ q, q < n ∧ h.2.1 (.inr (S, 5)) q = k_mn a b ∧ h.2.1 (.inr (S, 6)) q = k_mx a b ∧ (f61 S a b h).toInt = q) ∨ ((∀ q, q < n → ¬ (h.2.1 (.inr (S, 5)) q = k_mn a b ∧ h.2.1 (.inr (S, 6)) q = k_mx a b)) ∧ f61 S a b h = -1) := by
  rw [f61_eq]
  rcases k61g (a := a) (b := b) hn n15 n 0 0 (by omega) rfl with ⟨q, q1, q2⟩ | ⟨q1, q2⟩
  · exact Or.inl ⟨q, q2⟩
  · exact Or.inr ⟨fun q z => q1 q (Nat.zero_le _) z, q2⟩
theorem k_mn_v {x y : Int32} {a b : Nat} (hx : x.toInt = (a : Int)) (hy : y.toInt = (b : Int)) : (k_mn x y).toInt = ((min a b : Nat) : Int) := by
  unfold k_mn
  by_cases c : b < a
  · rw [if_pos (i_lt hy hx (by omega)), hy]
    omega
  · rw [if_neg (i_nlt hy hx (by omega)), hx]
    omega
theorem k_mx_v {x y : Int32} {a b : Nat} (hx : x.toInt = (a : Int)) (hy : y.toInt = (b : Int)) : (k_mx x y).toInt = ((max a b : Nat) : Int) := by
  unfold k_mx
  by_cases c : a < b
  · rw [if_pos (i_lt hx hy (by omega)), hy]
    omega
  · rw [if_neg (i_nlt hx hy (by omega)), hx]
    omega
/-- addPiece -/
def k_ap (h : mx_H) (S n : Nat) (a b d : Int32) : mx_H := mx_uI (mx_uI (mx_uI (mx_uI (mx_uI h (.inr (S, 5)) n (k_mn a b)) (.inr (S, 6)) n (k_mx a b)) (.inr (S, 7)) n d) (.inr (S, 8)) n 0) (.inr (S, 0)) 6 (h.2.1 (.inr (S, 0)) 6 + 1)
theorem k63 {a b d : Int32} (hn : rD h (.inr (S, 0)) 6 = n) (n15 : n < 15) : f63 S a b d h = k_ap h S n a b d := by
  rw [f63_eq, if_pos (i_lt hn k_15 (by omega)), rS (show 0 ≠ 8 by decide +kernel), rS (show 0 ≠ 7 by decide +kernel), rS (show 0 ≠ 6 by decide +kernel), rS (show 0 ≠ 5 by decide +kernel), i_cl hn]
  rfl
/-- setPiece -/
def k_p (h : mx_H) (q : Nat) (bo st cr : Int32) : mx_H := mx_uI (mx_uI (mx_uI h (.inl 113) q (bo + 1)) (.inl 111) q st) (.inl 112) q cr
theorem k181 {s x y bo st cr : Int32} {a b : Nat} (hs : s.toInt = (S : Int)) (hx : x.toInt = (a : Int)) (hy : y.toInt = (b : Int)) (S12 : S ≤ 12) (ha : a < 6) (hb : b < 6) : f181 s x y bo st cr h = k_p (k_p h (36 * S + 6 * a + b) bo st cr) (36 * S + 6 * b + a) bo st cr := by
  rw [f181_eq, g181_3_eq, if_neg (show ¬ (2 : Int32) ≤ 0 by decide +kernel), if_neg (show ¬ (0 : Int32) ≠ 0 from fun q => q rfl)]
  show g181_3 s x y bo st cr (0 + 1) (mx_uI (mx_uI (mx_uI h (.inl 113) (Int32.toNatClampNeg (f179 s x y)) (bo + 1)) (.inl 111) (Int32.toNatClampNeg (f179 s x y)) st) (.inl 112) (Int32.toNatClampNeg (f179 s x y)) cr) = _
  rw [i_cl (w179 hs hx hy S12 ha hb), g181_3_eq, if_neg (show ¬ (2 : Int32) ≤ 0 + 1 by decide +kernel), if_pos (show (0 + 1 : Int32) ≠ 0 by decide +kernel)]
  show g181_3 s x y bo st cr (0 + 1 + 1) (mx_uI (mx_uI (mx_uI _ (.inl 113) (Int32.toNatClampNeg (f179 s y x)) (bo + 1)) (.inl 111) (Int32.toNatClampNeg (f179 s y x)) st) (.inl 112) (Int32.toNatClampNeg (f179 s y x)) cr) = _
  rw [i_cl (w179 hs hy hx S12 hb ha), g181_3_eq, if_pos (show (2 : Int32) ≤ 0 + 1 + 1 by decide +kernel)]
  rfl
theorem k_p3 {q q2 : Nat} {bo st cr : Int32} : (k_p h q bo st cr).2.1 (.inl 113) q2 = if q2 = q then bo + 1 else h.2.1 (.inl 113) q2 := by
  by_cases e : q2 = q
  · rw [if_pos e]
    show (mx_uI h (.inl 113) q (bo + 1)).2.1 (.inl 113) q2 = _
    exact rI_c rfl e
  · rw [if_neg e]
    show (mx_uI h (.inl 113) q (bo + 1)).2.1 (.inl 113) q2 = _
    exact rI_i e
theorem k_p1 {q q2 : Nat} {bo st cr : Int32} : (k_p h q bo st cr).2.1 (.inl 111) q2 = if q2 = q then st else h.2.1 (.inl 111) q2 := by
  by_cases e : q2 = q
  · rw [if_pos e]
    show (mx_uI (mx_uI h (.inl 113) q (bo + 1)) (.inl 111) q st).2.1 (.inl 111) q2 = _
    exact rI_c rfl e
  · rw [if_neg e]
    show (mx_uI (mx_uI h (.inl 113) q (bo + 1)) (.inl 111) q st).2.1 (.inl 111) q2 = _
    exact rI_i e
theorem k_p2 {q q2 : Nat} {bo st cr : Int32} : (k_p h q bo st cr).2.1 (.inl 112) q2 = if q2 = q then cr else h.2.1 (.inl 112) q2 := by
  by_cases e : q2 = q
  · rw [if_pos e]
    exact rI_c rfl e
  · rw [if_neg e]
    exact rI_i e
theorem k_po {q k i : Nat} {bo st cr : Int32} (h1 : k ≠ 111) (h2 : k ≠ 112) (h3 : k ≠ 113) : (k_p h q bo st cr).2.1 (.inl k) i = h.2.1 (.inl k) i := by
  unfold k_p
  rw [rN h2, rN h1, rN h3]
end RQ
/-! ===== a piece is read alike ===== -/
section RV
variable {hc hr h : mx_H} {L p S C n k : Nat} {a b d : Int32}
theorem ka5 : (k_ap h S n a b d).2.1 (.inr (S, 5)) k = if k = n then k_mn a b else h.2.1 (.inr (S, 5)) k := by
  unfold k_ap
  rw [rS (show 5 ≠ 0 by decide +kernel), rS (show 5 ≠ 8 by decide +kernel), rS (show 5 ≠ 7 by decide +kernel), rS (show 5 ≠ 6 by decide +kernel)]
  by_cases e : k = n
  · rw [if_pos e, rI_c rfl e]
  · rw [if_neg e, rI_i e]
theorem ka6 : (k_ap h S n a b d).2.1 (.inr (S, 6)) k = if k = n then k_mx a b else h.2.1 (.inr (S, 6)) k := by
  unfold k_ap
  rw [rS (show 6 ≠ 0 by decide +kernel), rS (show 6 ≠ 8 by decide +kernel), rS (show 6 ≠ 7 by decide +kernel)]
  by_cases e : k = n
  · rw [if_pos e, rI_c rfl e]
  · rw [if_neg e, rI_i e, rS (show 6 ≠ 5 by decide +kernel)]
theorem ka7 : (k_ap h S n a b d).2.1 (.inr (S, 7)) k = if k = n then d else h.2.1 (.inr (S, 7)) k := by
  unfold k_ap
  rw [rS (show 7 ≠ 0 by decide +kernel), rS (show 7 ≠ 8 by decide +kernel)]
  by_cases e : k = n
  · rw [if_pos e, rI_c rfl e]
  · rw [if_neg e, rI_i e, rS (show 7 ≠ 6 by decide +kernel), rS (show 7 ≠ 5 by decide +kernel)]
theorem ka8 : (k_ap h S n a b d).2.1 (.inr (S, 8)) k = if k = n then 0 else h.2.1 (.inr (S, 8)) k := by
  unfold k_ap
  rw [rS (show 8 ≠ 0 by decide +kernel)]
  by_cases e : k = n
  · rw [if_pos e, rI_c rfl e]
  · rw [if_neg e, rI_i e, rS (show 8 ≠ 7 by decide +kernel), rS (show 8 ≠ 6 by decide +kernel), rS (show 8 ≠ 5 by decide +kernel)]
theorem ka0 : (k_ap h S n a b d).2.1 (.inr (S, 0)) k = if k = 6 then h.2.1 (.inr (S, 0)) 6 + 1 else h.2.1 (.inr (S, 0)) k := by
  unfold k_ap
  by_cases e : k = 6
  · rw [if_pos e, rI_c rfl e]
  · rw [if_neg e, rI_i e, rS (show 0 ≠ 8 by decide +kernel), rS (show 0 ≠ 7 by decide +kernel), rS (show 0 ≠ 6 by decide +kernel), rS (show 0 ≠ 5 by decide +kernel)]
theorem kao {o : Nat} (h0 : o ≠ 0) (h5 : o ≠ 5) (h6 : o ≠ 6) (h7 : o ≠ 7) (h8 : o ≠ 8) : (k_ap h S n a b d).2.1 (.inr (S, o)) = h.2.1 (.inr (S, o)) := by
  unfold k_ap
  rw [rS h0, rS h8, rS h7, rS h6, rS h5]
theorem kal {q i : Nat} : (k_ap h S n a b d).2.1 (.inl q) i = h.2.1 (.inl q) i := rfl
theorem kaF {h0 : mx_H} (f : rz_FC S h0 h) : rz_FC S h0 (k_ap h S n a b d) := ((((f.s (by decide +kernel)).s (by decide +kernel)).s (by decide +kernel)).s (by decide +kernel)).s (by decide +kernel)
/-- the list of what was read -/
def k_q (g : mx_H) (x y : Int32) : mx_H := mx_uI (mx_uI (mx_uI g (.inl 119) (Int32.toNatClampNeg (g.2.1 (.inl 105) 19)) x) (.inl 120) (Int32.toNatClampNeg (g.2.1 (.inl 105) 19)) y) (.inl 105) 19 (g.2.1 (.inl 105) 19 + 1)
theorem R190 (g : mx_H) : f190 g = if 0 ≤ f189 g then (if f189 (rz_r g) < 0 then f186 (rz_r g) else if f189 (rz_r g) = f189 g then f186 (rz_r g) else if f180 (g.2.1 (.inl 105) 1) (f189 g) (f189 (rz_r g)) (rz_r g) = 0 then x_let (f188 (rz_r (rz_r g))) (fun x16 h15 => if h15.2.1 (.inl 105) 18 < 0 then k_q (f181 (h15.2.1 (.inl 105) 1) (f189 g) (f189 (rz_r g)) 0 x16 0 h15) (f189 g) (f189 (rz_r g)) else h15) else f186 (rz_r g)) else f186 g := f190_eq g
theorem C89 (S : Nat) (h : mx_H) : f89 S h = if 0 ≤ f94 S h then (if f94 S (rz_c h) < 0 then (0, rz_c h) else if f94 S (rz_c h) = f94 S h then (0, rz_c h) else if f61 S (f94 S h) (f94 S (rz_c h)) (rz_c h) < 0 then (if f93 (rz_c (rz_c h)) ≠ 0 then (1, rz_c (f63 S (f94 S h) (f94 S (rz_c h)) (f93 (rz_c (rz_c h))) (rz_c (rz_c h)))) else (0, rz_c (rz_c h))) else (0, rz_c h)) else (0, h) := f89_eq S h
theorem rz_kb {x y : Nat} (q : rz_k hc hr S C k x y) : hr.2.1 (.inl 113) (36 * S + 6 * x + y) = 1 ∧ hr.2.1 (.inl 113) (36 * S + 6 * y + x) = 1 := ⟨q.2.2.2.2.2.2.2.1, q.2.2.2.2.2.2.2.2.1⟩
/-- a pair is there on both sides, or on none -/
theorem rz_has {x y : Int32} {u v : Nat} (K : rz_C hc hr S C n) (hS : rD hr (.inl 105) 1 = S) (S11 : S ≤ 12) (hx : x.toInt = (u : Int)) (hy : y.toInt = (v : Int)) (hu : u < C) (hv : v < C) (hn : u ≠ v) :
    (¬ f61 S x y hc < 0 ∧ ¬ f180 (hr.2.1 (.inl 105) 1) x y hr = 0) ∨ (f61 S x y hc < 0 ∧ f180 (hr.2.1 (.inl 105) 1) x y hr = 0 ∧ hr.2.1 (.inl 113) (36 * S + 6 * u + v) = 0 ∧ hr.2.1 (.inl 113) (36 * S + 6 * v + u) = 0 ∧ n < 15) := by
  obtain ⟨C6, k1, k2, k3, k4, k5, k6, kP1, kP2, kP3, kP4⟩ := K
  have n15 : n ≤ 15 := by
    rw [kP3]
    exact sd_C_15 _
  have w := w179 hS hx hy (by omega) (by omega) (by omega)
  rcases kP2 u v (by omega) (by omega) with z | ⟨q, q1, q2⟩
  · have z2 : hr.2.1 (.inl 113) (36 * S + 6 * v + u) = 0 := by
      rcases kP2 v u (by omega) (by omega) with z2 | ⟨q, q1, q2⟩
      · exact z2
      · exfalso
        rcases q2 with q2 | q2
        · rw [(rz_kb q2).2] at z
          exact n10 z
        · rw [(rz_kb q2).1] at z
          exact n10 z
    refine Or.inr ⟨?_, ?_, z, z2, ?_⟩
    · rcases k61 (a := x) (b := y) k3 n15 with ⟨q, q1, q2, q3, -⟩ | ⟨-, q⟩
      · exfalso
        obtain ⟨u', v', Q⟩ := kP1 q q1
        obtain ⟨o1, o2, o3, -, -, o6, o7, o8, o9, -⟩ := Q
        unfold rD at o6 o7
        rw [q2, k_mn_v hx hy] at o6
        rw [q3, k_mx_v hx hy] at o7
        have e : (u' = u ∧ v' = v) ∨ (u' = v ∧ v' = u) := by omega
        rcases e with ⟨rfl, rfl⟩ | ⟨rfl, rfl⟩
        · rw [z] at o8
          exact absurd o8 (by decide +kernel)
        · rw [z] at o9
          exact absurd o9 (by decide +kernel)
      · rw [q]
        decide
    · rw [f180_eq, i_cl w, z]
      rfl
    · obtain ⟨c, hc1, hc2⟩ := sd_pair (show u < 6 by omega) (show v < 6 by omega) hn
      have : sd_C sd_CL (rz_g hr S) ≤ 14 := by
        refine sd_C_14 hc1 (fun q => ?_)
        have q' := of_decide_eq_true q
        rcases hc2 with rfl | rfl
        · exact q' (by rw [← Nat.add_assoc]; exact z)
        · exact q' (by rw [← Nat.add_assoc]; exact z2)
      omega
  · have z : hr.2.1 (.inl 113) (36 * S + 6 * u + v) = 1 := by
      rcases q2 with q2 | q2
      · exact (rz_kb q2).1
      · exact (rz_kb q2).2
    refine Or.inl ⟨?_, ?_⟩
    · rcases k61 (a := x) (b := y) k3 n15 with ⟨q, q1, -, -, q3⟩ | ⟨q3, -⟩
      · exact i_nlt q3 k_0 (by omega)
      · exfalso
        refine q3 q q1 ⟨?_, ?_⟩
        · rcases q2 with q2 | q2
          · exact i_eq q2.2.2.2.2.2.1 (k_mn_v hx hy) rfl
          · exact i_eq q2.2.2.2.2.2.1 (k_mn_v hx hy) (by omega)
        · rcases q2 with q2 | q2
          · exact i_eq q2.2.2.2.2.2.2.1 (k_mx_v hx hy) rfl
          · exact i_eq q2.2.2.2.2.2.2.1 (k_mx_v hx hy) (by omega)
    · rw [f180_eq, i_cl w, z]
      decide
end RV
