/-! ===== what lies beyond a cell's end does not matter; the first heap ===== -/
theorem mx_D_norm {E : mx_Ev} {fin : mx_A → Nat → Option mx_A} {h h' : mx_H} {s : State} {H : Heap} {locs : List Loc} (e1 : h'.1 = h.1) (e2 : h'.2.2.1 = h.2.2.1) (ei : ∀ a, mx_wfa h.1 a → (mx_lo a).1 ≤ 103 → (mx_lo a).1 ≠ 101 → ∀ i, i < (mx_lo a).2 → h'.2.1 a i = h.2.1 a i) (er : ∀ a, mx_wfa h.1 a → ∀ i, i < (mx_lo a).2 → h'.2.2.2 a i = h.2.2.2 a i)
    (es : ∀ a k b, h'.2.2.2 a k = some b → h.2.2.2 a k = some b) (ef : ∀ a k b, fin a k = some b → h'.2.2.2 a k = h.2.2.2 a k) (hD : mx_D E fin h s H locs) : mx_D E fin h' s H locs := by
  obtain ⟨d1, d2, d3, d4, d5, d6⟩ := hD
  have g : ∀ (k : Nat) (q : Nat × va_E), (mx_W E h')[k]? = some q → k < h.1 ∧ q = (mx_B E + k, mx_cell E h' (mx_adr k)) := fun k q hq => by
    unfold mx_W at hq
    rw [List.getElem?_map, e1] at hq
    by_cases hk : k < h.1
    · rw [List.getElem?_range hk] at hq
      cases hq
      exact ⟨hk, rfl⟩
    · rw [List.getElem?_eq_none (by simpa using hk)] at hq
      cases hq
  have g0 : ∀ k, k < h.1 → (mx_W E h)[k]? = some (mx_B E + k, mx_cell E h (mx_adr k)) := fun k hk => by
    unfold mx_W
    rw [List.getElem?_map, List.getElem?_range hk]
    rfl
  refine ⟨fun k q hq => ?_, ⟨fun i j p q hp hq e => ?_, fun k q hq => ?_⟩, d3, by rw [e1]; exact d4, fun a k b hb => by rw [e1]; exact d5 a k b (es a k b hb), fun a k b hb ha => ?_⟩
  · obtain ⟨hk, rfl⟩ := g k q hq
    have p := d1 k _ (g0 k hk)
    have ha : mx_wfa h.1 (mx_adr k) := ⟨mx_va_adr k, by rw [mx_pos_adr]; exact hk⟩
    generalize hA : mx_adr k = a at p ha ⊢
    have ei' := ei a ha
    have er' := er a ha
    unfold mx_cell at p ⊢
    by_cases c : (mx_lo a).1 < 100
    · rw [if_pos c] at p ⊢
      have el : (List.range (mx_lo a).2).map (mx_fv E h' a (mx_lo a).1) = (List.range (mx_lo a).2).map (mx_fv E h a (mx_lo a).1) := by
        apply List.map_congr_left
        intro i hi
        have hi := List.mem_range.mp hi
        unfold mx_fv
        rw [ei' (by omega) (by omega) i hi, er' i hi]
      rw [el]
      exact p
    · rw [if_neg c] at p ⊢
      unfold mx_ar at p ⊢
      by_cases c1 : (mx_lo a).1 = 101
      · rw [if_pos c1] at p ⊢
        rw [e2]
        exact p
      · rw [if_neg c1] at p ⊢
        by_cases c2 : (mx_lo a).1 ≤ 103
        · rw [if_pos c2] at p ⊢
          have p' : H[mx_B E + k]? = some (arrV (mx_aC E ((mx_lo a).1 - 100)) (mx_lo a).2 (fun j => .int (h.2.1 a j))) := p
          show H[mx_B E + k]? = some (arrV (mx_aC E ((mx_lo a).1 - 100)) (mx_lo a).2 (fun j => .int (h'.2.1 a j)))
          rw [p']
          unfold arrV
          have eq : (Array.ofFn (n := (mx_lo a).2) fun j => Value.int (h.2.1 a j.val)) = (Array.ofFn (n := (mx_lo a).2) fun j => Value.int (h'.2.1 a j.val)) := by
            congr 1
            funext j
            rw [ei' c2 c1 j.val j.isLt]
          rw [eq]
        · rw [if_neg c2] at p ⊢
          have p' : H[mx_B E + k]? = some (arrV (mx_aC E ((mx_lo a).1 - 100)) (mx_lo a).2 (fun j => va_rf ((h.2.2.2 a j).map (mx_ad E)))) := p
          show H[mx_B E + k]? = some (arrV (mx_aC E ((mx_lo a).1 - 100)) (mx_lo a).2 (fun j => va_rf ((h'.2.2.2 a j).map (mx_ad E))))
          rw [p']
          unfold arrV
          have eq : (Array.ofFn (n := (mx_lo a).2) fun j => va_rf ((h.2.2.2 a j.val).map (mx_ad E))) = (Array.ofFn (n := (mx_lo a).2) fun j => va_rf ((h'.2.2.2 a j.val).map (mx_ad E))) := by
            congr 1
            funext j
            rw [er' j.val j.isLt]
          rw [eq]
  · obtain ⟨hi, rfl⟩ := g i p hp
    obtain ⟨hj, rfl⟩ := g j q hq
    exact d2.1 i j _ _ (g0 i hi) (g0 j hj) e
  · obtain ⟨hk, rfl⟩ := g k q hq
    have t := d2.2 k _ (g0 k hk)
    exact t
  · rw [ef a k b hb]
    exact d6 a k b hb (by rw [← e1]; exact ha)
theorem ml_c0 : mx_co [(0, .inl (.float 2)), (1, .inr (.inl 0)), (2, .inr (.inl 105)), (3, .inl (.int 0))] (mx_get [(0, .inl (.float 2)), (1, .inr (.inl 0)), (2, .inr (.inl 105)), (3, .inl (.int 0))]) := by
  intro q hq
  simp only [List.mem_cons, List.not_mem_nil, or_false] at hq
  rcases hq with rfl | rfl | rfl | rfl <;> rfl
theorem mx_T0.norm {E : mx_Ev} {fin : mx_A → Nat → Option mx_A} {d bc bs mid pc : Nat} {lv : mx_Lv} {st : List mx_V} {h h' : mx_H} {Q : Option mx_V → mx_H → Prop} (e1 : h'.1 = h.1) (e2 : h'.2.2.1 = h.2.2.1) (ei : ∀ a, mx_wfa h.1 a → (mx_lo a).1 ≤ 103 → (mx_lo a).1 ≠ 101 → ∀ i, i < (mx_lo a).2 → h'.2.1 a i = h.2.1 a i) (er : ∀ a, mx_wfa h.1 a → ∀ i, i < (mx_lo a).2 → h'.2.2.2 a i = h.2.2.2 a i)
    (es : ∀ a k b, h'.2.2.2 a k = some b → h.2.2.2 a k = some b) (ef : ∀ a k b, fin a k = some b → h'.2.2.2 a k = h.2.2.2 a k) (hT : mx_T0 E fin d bc bs mid pc lv st h' Q) : mx_T0 E fin d bc bs mid pc lv st h Q :=
  fun p e R s m args below meth c H locs cells slots Qw ls hS hD h1 h2 h3 h4 h5 h6 => hT p e R s m args below meth c H locs cells slots Qw ls hS (mx_D_norm e1 e2 ei er es ef hD) h1 h2 (by rw [e1]; exact h3) (by rw [e1]; exact h4) h5 (by rw [e1]; exact h6)
theorem sp_N3 (i : Nat) : sp_hN.2.2.2 (.inl 3) i = none := by
  rw [sp_hN_r]
  by_cases c : i < 12
  · have := sp_okr
    simp only [Bool.and_eq_true, List.all_eq_true] at this
    rw [Option.isNone_iff_eq_none.mp (this.1 i (List.mem_range.mpr c))]
    cases sp_cut (.inl 3) i <;> rfl
  · rw [show sp_cut (.inl 3) i = true from by unfold sp_cut; simp [Nat.ble_eq]; omega]
    rfl
theorem sp_N85 (i : Nat) : sp_hN.2.2.2 (.inl 85) i = none := by
  rw [sp_hN_r]
  by_cases c : i < 40
  · have := sp_okr
    simp only [Bool.and_eq_true, List.all_eq_true] at this
    rw [Option.isNone_iff_eq_none.mp (this.2.1 i (List.mem_range.mpr c))]
    cases sp_cut (.inl 85) i <;> rfl
  · rw [show sp_cut (.inl 85) i = true from by unfold sp_cut; simp [Nat.ble_eq]; omega]
    rfl
theorem sp_N92 (i : Nat) : sp_hN.2.2.2 (.inl 92) i = none := by
  rw [sp_hN_r]
  by_cases c : i < 200
  · have := sp_okr
    simp only [Bool.and_eq_true, List.all_eq_true] at this
    rw [Option.isNone_iff_eq_none.mp (this.2.2 i (List.mem_range.mpr c))]
    cases sp_cut (.inl 92) i <;> rfl
  · rw [show sp_cut (.inl 92) i = true from by unfold sp_cut; simp [Nat.ble_eq]; omega]
    rfl
theorem sp_N6 (j : Nat) : sp_hN.2.1 (.inr (j, 0)) 6 = 0 := by
  by_cases c : j = 0
  · subst c
    exact sp_N0.2.2.2.2.2.2.2.2.2
  · rw [sp_hN_i]
    rw [show sp_ok (.inr (j, 0)) 6 = false from by
      unfold sp_ok
      rw [sn_pos c (by decide +kernel), show Nat.blt (158 + 9 * j + 0) 167 = false from by
        cases q : Nat.blt (158 + 9 * j + 0) 167
        · rfl
        · have := Nat.blt_eq.mp q
          omega]
      rfl]
    rfl
theorem sp_gen {h : mx_H} (hn : h.1 = 167) (hb : ∀ a i, sf_iv (sf_bd a i).1 (sf_bd a i).2 (h.2.1 a i)) (r3 : ∀ i, h.2.2.2 (.inl 3) i = none) (r85 : ∀ i, h.2.2.2 (.inl 85) i = none) (r92 : ∀ i, h.2.2.2 (.inl 92) i = none) (r6 : ∀ j, h.2.1 (.inr (j, 0)) 6 = 0)
    (n0 : h.2.2.2 (.inl 0) 3 = some (.inr (0, 0)) ∧ h.2.1 (.inl 0) 2 = 0 ∧ h.2.1 (.inl 60) 1 = 0 ∧ h.2.1 (.inl 84) 0 = 0 ∧ h.2.1 (.inl 84) 1 = 0 ∧ h.2.1 (.inl 105) 24 = 0 ∧ h.2.1 (.inl 105) 25 = 0 ∧ h.2.1 (.inl 105) 1 = 0 ∧ h.2.1 (.inl 105) 12 = 0 ∧ h.2.1 (.inr (0, 0)) 6 = 0) : sf_I h := by
  obtain ⟨n1, n2, n3, n4, n5, n6, n7, n8, n9, n10⟩ := n0
  have z : ∀ {a i r}, sf_rg a i = r → sf_jr r = true → h.2.1 a i = 0 → sf_jf h a i = 0 := fun e hr e0 => by
    rw [sf_jfr e hr, e0]
    rfl
  refine ⟨hb, fun a i b hs hb => ?_, ⟨?_, ?_, ?_, ?_⟩, ⟨?_, ?_⟩, ?_, ?_, ?_, ?_⟩
  · rcases a with n | q
    · unfold sf_sr at hs
      simp only [Bool.or_eq_true, Bool.and_eq_true, Nat.beq_eq] at hs
      rcases hs with rfl | rfl | rfl | ⟨rfl, rfl⟩
      · cases (r3 i).symm.trans hb
      · cases (r85 i).symm.trans hb
      · cases (r92 i).symm.trans hb
      · cases n1.symm.trans hb
        exact ⟨_, rfl⟩
    · cases hs
  · intro j k hk
    rw [z (r := 385) rfl rfl (r6 j)] at hk
    omega
  · intro k hk
    rw [z (r := 137) rfl rfl n3] at hk
    omega
  · unfold sf_J3
    rw [z (r := 190) rfl rfl n4, z (r := 191) rfl rfl n5]
    exact ⟨by decide +kernel, fun k hk => by omega⟩
  · refine ⟨0, n1, hn, z (r := 2) rfl rfl n2, fun i j hb => ?_⟩
    cases (r3 i).symm.trans hb
  · rw [z (r := 248) rfl rfl n6, z (r := 249) rfl rfl n7]
    decide
  · rw [z (r := 248) rfl rfl n6, z (r := 249) rfl rfl n7]
    intro k hk
    omega
  · intro s c hs
    rw [z (r := 225) rfl rfl n8] at hs
    omega
  · intro p hp
    rw [z (r := 225) rfl rfl n8] at hp
    omega
  · intro s a b hs
    rw [z (r := 225) rfl rfl n8] at hs
    omega
  · intro b hb
    rw [z (r := 236) rfl rfl n9] at hb
    omega
theorem sp_Nb (a : mx_A) (i : Nat) : sf_iv (sf_bd a i).1 (sf_bd a i).2 (sp_hN.2.1 a i) := by
  rw [sp_hN_i]
  cases q : sp_ok a i
  · exact sn_iv0 _ _
  · unfold sp_ok at q
    simp only [Bool.and_eq_true, decide_eq_true_eq, Nat.blt_eq] at q
    have := sp_okb
    simp only [List.all_eq_true, Bool.or_eq_true, Bool.and_eq_true, decide_eq_true_eq, Bool.not_eq_true'] at this
    rcases this (mx_pos a) (List.mem_range.mpr q.1) with t | t
    · rw [q.2.2.1, q.2.2.2] at t
      cases t
    · rcases t i (by rw [q.2.2.1]; exact List.mem_range.mpr q.2.1) with t | t
      · rw [q.2.2.1] at t
        have r := iv_rng (sp_h0.2.1 a i)
        exact ⟨Int.le_trans t.1 r.1, Int.le_trans r.2 t.2⟩
      · rw [q.2.2.1] at t
        exact t
theorem sp_NI : sf_I sp_hN := sp_gen (sp_hN_n.trans sp_h0_n) sp_Nb sp_N3 sp_N85 sp_N92 sp_N6 sp_N0
theorem sp_enter {E : mx_Ev} {Q : Option mx_V → mx_H → Prop} (H : mx_T E (mx_fn true) 1000 586 6306 0 18 [(0, .inl (.float 2)), (1, .inr (.inl 0)), (2, .inr (.inl 105)), (3, .inl (.int 0))] [] sp_hN Q) :
    mx_T0 E (mx_fn false) 1000 753 22667 0 0 [(0, .inl (.float 2))] [] sp_he Q := by
  refine sp_entry (mx_T0.norm (h' := sp_hN) sp_hN_n sp_hN_l (fun a ha k1 k2 i hi => ?_) (fun a ha i hi => ?_) (fun a k b hb => ?_) (fun a k b hb => ?_) (mx_T.weak (f := mx_get [(0, .inl (.float 2)), (1, .inr (.inl 0)), (2, .inr (.inl 105)), (3, .inl (.int 0))]) ml_c0 H))
  · rw [sp_hN_i]
    rw [sp_h0_n] at ha
    rw [show sp_ok a i = true from by
      unfold sp_ok
      unfold sp_kd
      simp only [Bool.and_eq_true, Bool.or_eq_true, decide_eq_true_eq, Nat.blt_eq, Nat.ble_eq, Nat.beq_eq]
      exact ⟨ha.2, hi, mx_adr_pos ha.1, by omega⟩]
    rfl
  · rw [sp_hN_r]
    have q : sp_cut a i = false := by
      cases q : sp_cut a i
      · rfl
      · exfalso
        rcases a with n | q'
        · unfold sp_cut at q
          simp only [Bool.or_eq_true, Bool.and_eq_true, Nat.beq_eq, Nat.ble_eq] at q
          rcases q with ⟨rfl, q⟩ | ⟨rfl, q⟩ | ⟨rfl, q⟩
          · have : i < 12 := hi
            omega
          · have : i < 40 := hi
            omega
          · have : i < 200 := hi
            omega
        · cases q
    rw [q]
    rfl
  · have hb' := hb
    rw [sp_hN_r] at hb'
    cases q : sp_cut a k
    · rw [q] at hb'
      exact hb'
    · rw [q] at hb'
      cases hb'
  · rw [sp_hN_r]
    cases q : sp_cut a k
    · rfl
    · exfalso
      rcases a with n | q'
      · unfold sp_cut at q
        simp only [Bool.or_eq_true, Bool.and_eq_true, Nat.beq_eq] at q
        rcases q with ⟨rfl, -⟩ | ⟨rfl, -⟩ | ⟨rfl, -⟩ <;> cases hb
      · cases q
/-! ===== answers, exactly, of the calls that nothing else touches ===== -/
theorem li_nw {x l u : Int32} {X L U : Int} (g : ¬ (l ≤ x ∧ x ≤ u)) (ex : x.toInt = X) (el : l.toInt = L) (eu : u.toInt = U) : ¬ (L ≤ X ∧ X ≤ U) := by
  rw [← ex, ← el, ← eu]
  exact fun q => g ⟨Int32.le_iff_toInt_le.mpr q.1, Int32.le_iff_toInt_le.mpr q.2⟩
