/-! ===== class: the draft is no shape; what stays of the others ===== -/
theorem ne_jj {j j' o : Nat} (h : ¬ j = j') : ¬ (Sum.inr (j, o) : mx_A) = .inr (j', o) := fun q => h (sf_ir q).1
theorem sf_dr2 {x y : Option mx_A} {j0 j : Nat} (e : y = x) (q0 : x = some (.inr (j0, 0))) (q : y = some (.inr (j, 0))) : j0 = j := by
  rw [e, q0] at q
  injection q with q
  exact (sf_ir q).1
theorem sf_j4n {h : mx_H} {i sj dj : Nat} (hI : sf_I h) (q1 : h.2.2.2 (.inl 3) i = some (.inr (sj, 0))) (q2 : h.2.2.2 (.inl 0) 3 = some (.inr (dj, 0))) : ¬ sj = dj := by
  obtain ⟨m, h1, -, -, h4⟩ := hI.2.2.1.2.2.2
  have := h4 i sj q1
  have := sf_dr2 rfl h1 q2
  omega
/-- the corners of all shapes but one stay -/
def sf_Fr (h0 h : mx_H) (t : Nat) : Prop := ∀ j, ¬ j = t → h.2.1 (.inr (j, 0)) 0 = h0.2.1 (.inr (j, 0)) 0
theorem sf_Fr0 (h : mx_H) (t : Nat) : sf_Fr h h t := fun _ _ => rfl
theorem sf_Fru {h0 h : mx_H} {t : Nat} {a : mx_A} {i r : Nat} {v : Int32} (e : sf_rg a i = r) (hr : (r != 379) = true) (q : sf_Fr h0 h t) : sf_Fr h0 (mx_uI h a i v) t := by
  subst e
  rw [bne_iff_ne] at hr
  intro j hj
  exact (if_neg (fun c => hr (by rw [← c.1, ← c.2]; rfl))).trans (q j hj)
theorem sf_Frt {h0 h : mx_H} {t i : Nat} {v : Int32} (q : sf_Fr h0 h t) : sf_Fr h0 (mx_uI h (.inr (t, 0)) i v) t := fun j hj => (sf_ro (ne_jj hj)).trans (q j hj)
theorem sf_Fre {m : Nat} {h0 h h' : mx_H} {t : Nat} (hE : sf_E m h h') (h1 : m.testBit 379 = false) (q : sf_Fr h0 h t) : sf_Fr h0 h' t := fun j hj => (hE.1 (.inr (j, 0)) 0 h1).trans (q j hj)
theorem sf_Cai {h0 h : mx_H} {t s : Nat} {b : Int32} (hb : h0.2.1 (.inr (t, 0)) 0 = b) (q : sf_Fr h0 h t) (hn : ¬ s = t) (e : (h.2.1 (.inr (t, 0)) 0).toInt = b.toInt + (h.2.1 (.inr (s, 0)) 0).toInt) : (h.2.1 (.inr (t, 0)) 0).toInt = (h0.2.1 (.inr (t, 0)) 0).toInt + (h0.2.1 (.inr (s, 0)) 0).toInt := by
  rw [q s hn] at e
  rw [hb]
  exact e
/-- pieces lie between corners -/
theorem sf_j1x {h : mx_H} {j : Nat} {k : Int32} (hI : sf_I h) (h0 : 0 ≤ k.toInt) (hk : k.toInt < (h.2.1 (.inr (j, 0)) 6).toInt) : (h.2.1 (.inr (j, 5)) k.toNatClampNeg).toInt < (h.2.1 (.inr (j, 0)) 0).toInt ∧ (h.2.1 (.inr (j, 6)) k.toNatClampNeg).toInt < (h.2.1 (.inr (j, 0)) 0).toInt := by
  have q := hI.2.2.1.1 j k.toNatClampNeg (by rw [sf_jfr (r := 385) rfl rfl, sf_cl h0]; exact hk)
  rw [sf_jfr (a := .inr (j, 0)) (r := 379) rfl rfl, sf_jfr (a := .inr (j, 5)) (r := 396) rfl rfl, sf_jfr (a := .inr (j, 6)) (r := 397) rfl rfl] at q
  exact q
/-! ===== class: a new draft ===== -/
set_option maxRecDepth 100000 in
theorem sg58_0 {E : mx_Ev} {d : Nat} {h : mx_H} {Q : Option mx_V → mx_H → Prop} {j : Nat}
    (H : (¬ (6 : Int32) < 0) ∧ ∃ x1, mx_pos x1 = (mx_uI h (.inr (j, 0)) 0 0).1 ∧ mx_va x1 ∧ mx_lo x1 = (100, 6) ∧ ((¬ (6 : Int32) < 0) ∧ ∃ x2, mx_pos x2 = (mx_uR (mx_nw (mx_uI h (.inr (j, 0)) 0 0) (x1)) (.inr (j, 0)) 1 (some x1)).1 ∧ mx_va x2 ∧ mx_lo x2 = (100, 6) ∧ ((¬ (6 : Int32) < 0) ∧ ∃ x3, mx_pos x3 = (mx_uR (mx_nw (mx_uR (mx_nw (mx_uI h (.inr (j, 0)) 0 0) (x1)) (.inr (j, 0)) 1 (some x1)) (x2)) (.inr (j, 0)) 2 (some x2)).1 ∧ mx_va x3 ∧ mx_lo x3 = (100, 6) ∧ ((¬ (6 : Int32) < 0) ∧ ∃ x4, mx_pos x4 = (mx_uR (mx_nw (mx_uR (mx_nw (mx_uR (mx_nw (mx_uI h (.inr (j, 0)) 0 0) (x1)) (.inr (j, 0)) 1 (some x1)) (x2)) (.inr (j, 0)) 2 (some x2)) (x3)) (.inr (j, 0)) 3 (some x3)).1 ∧ mx_va x4 ∧ mx_lo x4 = (100, 6) ∧ ((¬ (15 : Int32) < 0) ∧ ∃ x5, mx_pos x5 = (mx_uI (mx_uI (mx_uR (mx_nw (mx_uR (mx_nw (mx_uR (mx_nw (mx_uR (mx_nw (mx_uI h (.inr (j, 0)) 0 0) (x1)) (.inr (j, 0)) 1 (some x1)) (x2)) (.inr (j, 0)) 2 (some x2)) (x3)) (.inr (j, 0)) 3 (some x3)) (x4)) (.inr (j, 0)) 4 (some x4)) (.inr (j, 0)) 5 0) (.inr (j, 0)) 6 0).1 ∧ mx_va x5 ∧ mx_lo x5 = (100, 15) ∧ ((¬ (15 : Int32) < 0) ∧ ∃ x6, mx_pos x6 = (mx_uR (mx_nw (mx_uI (mx_uI (mx_uR (mx_nw (mx_uR (mx_nw (mx_uR (mx_nw (mx_uR (mx_nw (mx_uI h (.inr (j, 0)) 0 0) (x1)) (.inr (j, 0)) 1 (some x1)) (x2)) (.inr (j, 0)) 2 (some x2)) (x3)) (.inr (j, 0)) 3 (some x3)) (x4)) (.inr (j, 0)) 4 (some x4)) (.inr (j, 0)) 5 0) (.inr (j, 0)) 6 0) (x5)) (.inr (j, 0)) 7 (some x5)).1 ∧ mx_va x6 ∧ mx_lo x6 = (100, 15) ∧ ((¬ (15 : Int32) < 0) ∧ ∃ x7, mx_pos x7 = (mx_uR (mx_nw (mx_uR (mx_nw (mx_uI (mx_uI (mx_uR (mx_nw (mx_uR (mx_nw (mx_uR (mx_nw (mx_uR (mx_nw (mx_uI h (.inr (j, 0)) 0 0) (x1)) (.inr (j, 0)) 1 (some x1)) (x2)) (.inr (j, 0)) 2 (some x2)) (x3)) (.inr (j, 0)) 3 (some x3)) (x4)) (.inr (j, 0)) 4 (some x4)) (.inr (j, 0)) 5 0) (.inr (j, 0)) 6 0) (x5)) (.inr (j, 0)) 7 (some x5)) (x6)) (.inr (j, 0)) 8 (some x6)).1 ∧ mx_va x7 ∧ mx_lo x7 = (100, 15) ∧ ((¬ (15 : Int32) < 0) ∧ ∃ x8, mx_pos x8 = (mx_uR (mx_nw (mx_uR (mx_nw (mx_uR (mx_nw (mx_uI (mx_uI (mx_uR (mx_nw (mx_uR (mx_nw (mx_uR (mx_nw (mx_uR (mx_nw (mx_uI h (.inr (j, 0)) 0 0) (x1)) (.inr (j, 0)) 1 (some x1)) (x2)) (.inr (j, 0)) 2 (some x2)) (x3)) (.inr (j, 0)) 3 (some x3)) (x4)) (.inr (j, 0)) 4 (some x4)) (.inr (j, 0)) 5 0) (.inr (j, 0)) 6 0) (x5)) (.inr (j, 0)) 7 (some x5)) (x6)) (.inr (j, 0)) 8 (some x6)) (x7)) (.inr (j, 0)) 9 (some x7)).1 ∧ mx_va x8 ∧ mx_lo x8 = (100, 15) ∧ (Q none (mx_uI (mx_uI (mx_uR (mx_nw (mx_uR (mx_nw (mx_uR (mx_nw (mx_uR (mx_nw (mx_uI (mx_uI (mx_uR (mx_nw (mx_uR (mx_nw (mx_uR (mx_nw (mx_uR (mx_nw (mx_uI h (.inr (j, 0)) 0 0) (x1)) (.inr (j, 0)) 1 (some x1)) (x2)) (.inr (j, 0)) 2 (some x2)) (x3)) (.inr (j, 0)) 3 (some x3)) (x4)) (.inr (j, 0)) 4 (some x4)) (.inr (j, 0)) 5 0) (.inr (j, 0)) 6 0) (x5)) (.inr (j, 0)) 7 (some x5)) (x6)) (.inr (j, 0)) 8 (some x6)) (x7)) (.inr (j, 0)) 9 (some x7)) (x8)) (.inr (j, 0)) 10 (some x8)) (.inr (j, 0)) 11 (-1)) (.inr (j, 0)) 12 (-1))))))))))) :
    mx_T E (mx_fn false) (d + 1) 8 84 58 0 [(0, .inr (.inr (j, 0)))] [] h Q := mx_wpf_sound (cuts := []) mx_ok58 51 H mx_tbe58
def sn_h (h : mx_H) (j : Nat) : mx_H := (mx_uI (mx_uI (mx_uR (mx_nw (mx_uR (mx_nw (mx_uR (mx_nw (mx_uR (mx_nw (mx_uI (mx_uI (mx_uR (mx_nw (mx_uR (mx_nw (mx_uR (mx_nw (mx_uR (mx_nw (mx_uI h (.inr (j, 0)) 0 0) (.inr (j, 1))) (.inr (j, 0)) 1 (some (.inr (j, 1)))) (.inr (j, 2))) (.inr (j, 0)) 2 (some (.inr (j, 2)))) (.inr (j, 3))) (.inr (j, 0)) 3 (some (.inr (j, 3)))) (.inr (j, 4))) (.inr (j, 0)) 4 (some (.inr (j, 4)))) (.inr (j, 0)) 5 0) (.inr (j, 0)) 6 0) (.inr (j, 5))) (.inr (j, 0)) 7 (some (.inr (j, 5)))) (.inr (j, 6))) (.inr (j, 0)) 8 (some (.inr (j, 6)))) (.inr (j, 7))) (.inr (j, 0)) 9 (some (.inr (j, 7)))) (.inr (j, 8))) (.inr (j, 0)) 10 (some (.inr (j, 8)))) (.inr (j, 0)) 11 (-1)) (.inr (j, 0)) 12 (-1))
set_option maxRecDepth 100000 in
theorem sg169_0 {E : mx_Ev} {d : Nat} {h : mx_H} {Q : Option mx_V → mx_H → Prop} 
    (H : (∀ j1, h.2.2.2 (.inl 0) 3 = some (.inr (j1, 0)) → (mx_T E (mx_fn true) (d + 1) 9 97 169 16 [(0, .inr (.inl 0)), (1, .inl (.int 0))] [] (mx_uI h (.inr (j1, 0)) 5 (h.2.1 (.inl 90) 0)) Q)) ∧ (h.2.2.2 (.inl 0) 3 = none → (False)) ∧ (∀ b2, h.2.2.2 (.inl 0) 3 = some b2 → ∃ j3, b2 = .inr (j3, 0))) :
    mx_T E (mx_fn true) (d + 1) 9 97 169 0 [(0, .inr (.inl 0))] [] h Q := mx_wp_sound (cuts := [(16, [0, 1]), (70, [0])]) mx_ok169 46 H mx_tbe169
set_option maxRecDepth 100000 in
theorem sg169_16 {E : mx_Ev} {d : Nat} {h : mx_H} {Q : Option mx_V → mx_H → Prop} {a1 : Int32}
    (H : (∀ j1, h.2.2.2 (.inl 0) 3 = some (.inr (j1, 0)) → ((((h.2.1 (.inr (j1, 0)) 6) ≤ a1) → ((∀ j4, h.2.2.2 (.inl 0) 3 = some (.inr (j4, 0)) → ((vp_in (h.2.1 (.inl 0) 2) 12) ∧ (mx_fn true (.inl 3) (Int32.toNatClampNeg (h.2.1 (.inl 0) 2)) = none) ∧ (mx_T E (mx_fn true) (d + 1) 9 97 169 70 [(0, .inr (.inl 0))] [.inr (.inl 0)] (mx_uI (mx_uR h (.inl 3) (Int32.toNatClampNeg (h.2.1 (.inl 0) 2)) (some (.inr (j4, 0)))) (.inl 0) 2 (((mx_uR h (.inl 3) (Int32.toNatClampNeg (h.2.1 (.inl 0) 2)) (some (.inr (j4, 0)))).2.1 (.inl 0) 2) + 1)) Q))) ∧ (h.2.2.2 (.inl 0) 3 = none → ((vp_in (h.2.1 (.inl 0) 2) 12) ∧ (mx_fn true (.inl 3) (Int32.toNatClampNeg (h.2.1 (.inl 0) 2)) = none) ∧ (mx_T E (mx_fn true) (d + 1) 9 97 169 70 [(0, .inr (.inl 0))] [.inr (.inl 0)] (mx_uI (mx_uR h (.inl 3) (Int32.toNatClampNeg (h.2.1 (.inl 0) 2)) none) (.inl 0) 2 (((mx_uR h (.inl 3) (Int32.toNatClampNeg (h.2.1 (.inl 0) 2)) none).2.1 (.inl 0) 2) + 1)) Q))) ∧ (∀ b5, h.2.2.2 (.inl 0) 3 = some b5 → ∃ j6, b5 = .inr (j6, 0)))) ∧ (¬ ((h.2.1 (.inr (j1, 0)) 6) ≤ a1) → ((∀ j7, h.2.2.2 (.inl 0) 3 = some (.inr (j7, 0)) → (mx_C E (mx_fn true) d 37 [.inr (.inl 90), .inl (.int 1), .inr (.inr (j7, 0))] h (fun v10 h11 => ∀ x12, v10 = some (.inl (.int x12)) → (mx_T E (mx_fn true) (d + 1) 9 97 169 16 [(0, .inr (.inl 0)), (1, .inl (.int (a1 + 1)))] [] h11 Q)))) ∧ (h.2.2.2 (.inl 0) 3 = none → (mx_C E (mx_fn true) d 37 [.inr (.inl 90), .inl (.int 1), .inl .null] h (fun v13 h14 => ∀ x15, v13 = some (.inl (.int x15)) → (mx_T E (mx_fn true) (d + 1) 9 97 169 16 [(0, .inr (.inl 0)), (1, .inl (.int (a1 + 1)))] [] h14 Q)))) ∧ (∀ b8, h.2.2.2 (.inl 0) 3 = some b8 → ∃ j9, b8 = .inr (j9, 0)))))) ∧ (h.2.2.2 (.inl 0) 3 = none → (False)) ∧ (∀ b2, h.2.2.2 (.inl 0) 3 = some b2 → ∃ j3, b2 = .inr (j3, 0))) :
    mx_T E (mx_fn true) (d + 1) 9 97 169 16 [(0, .inr (.inl 0)), (1, .inl (.int a1))] [] h Q := mx_wp_sound (cuts := [(16, [0, 1]), (70, [0])]) mx_ok169 46 H mx_tbe169
set_option maxRecDepth 100000 in
theorem sg169_70 {E : mx_Ev} {d : Nat} {h : mx_H} {Q : Option mx_V → mx_H → Prop}
    (H : ∃ x, mx_pos x = h.1 ∧ mx_va x ∧ mx_lo x = (7, 13) ∧ (mx_C E (mx_fn false) d 58 [.inr x] (mx_nw h x) (fun v1 h2 => v1 = none → (Q (some (.inl (.int ((mx_uR h2 (.inl 0) 3 (some x)).2.1 (.inl 0) 2 - 1)))) (mx_uR h2 (.inl 0) 3 (some x)))))) :
    mx_T E (mx_fn false) (d + 1) 9 97 169 70 [(0, .inr (.inl 0))] [.inr (.inl 0)] h Q := mx_wpf_sound (cuts := [(16, [0, 1])]) mx_ok169 46 H mx_tbe169
theorem mx_T.leave2 {E : mx_Ev} {d bc bs mid pc : Nat} {lv : mx_Lv} {st : List mx_V} {h : mx_H} {Q : Option mx_V → mx_H → Prop} (hT : ∀ Q' : Option mx_V → mx_H → Prop, (∀ v h', (mx_Fi h → mx_Fi h') → Q v h' → Q' v h') → mx_T E (mx_fn false) d bc bs mid pc lv st h Q') : mx_T E (mx_fn true) d bc bs mid pc lv st h Q :=
  mx_T.mk ⟨fun f hf P hP p e R s m args below meth c H locs cells slots Qw ls hS hD h1 h2 h3 h4 h5 h6 => mx_T0.leave (mx_T0.mono ((hT (fun v h' => Q v h' ∧ mx_Fi h') (fun v h' w q => ⟨q, w hD.2.2.2.2.2⟩)).up.1 f hf P hP) (fun v h' q => ⟨⟨q.1.1, q.2⟩, q.1.2⟩)) p e R s m args below meth c H locs cells slots Qw ls hS hD h1 h2 h3 h4 h5 h6, (hT Q (fun v h' _ q => q)).up.2⟩
theorem sn_pos {j o : Nat} (hj : ¬ j = 0) (ho : o < 9) : mx_pos (.inr (j, o)) = 158 + 9 * j + o := (mx_pos_s j ho).trans (if_neg hj)
theorem sn58 {E : mx_Ev} {d : Nat} {h : mx_H} {Q : Option mx_V → mx_H → Prop} {j : Nat} (hj : ¬ j = 0) (hn : h.1 = 158 + 9 * j + 1) (hQ : Q none (sn_h h j)) : mx_C E (mx_fn false) (d + 1) 58 [.inr (.inr (j, 0))] h Q := by
  have P : ∀ o, 1 ≤ o → o < 9 → mx_pos (.inr (j, o)) = h.1 + (o - 1) := fun o h1 h2 => by
    rw [sn_pos hj h2]
    omega
  have V : ∀ o, o < 9 → mx_va (.inr (j, o)) := fun o ho => Or.inl ho
  exact sg58_0 ⟨by decide +kernel, .inr (j, 1), P 1 (by decide +kernel) (by decide +kernel), V 1 (by decide +kernel), rfl, by decide +kernel, .inr (j, 2), P 2 (by decide +kernel) (by decide +kernel), V 2 (by decide +kernel), rfl, by decide +kernel, .inr (j, 3), P 3 (by decide +kernel) (by decide +kernel), V 3 (by decide +kernel), rfl, by decide +kernel, .inr (j, 4), P 4 (by decide +kernel) (by decide +kernel), V 4 (by decide +kernel), rfl, by decide +kernel, .inr (j, 5), P 5 (by decide +kernel) (by decide +kernel), V 5 (by decide +kernel), rfl, by decide +kernel, .inr (j, 6), P 6 (by decide +kernel) (by decide +kernel), V 6 (by decide +kernel), rfl, by decide +kernel, .inr (j, 7), P 7 (by decide +kernel) (by decide +kernel), V 7 (by decide +kernel), rfl, by decide +kernel, .inr (j, 8), P 8 (by decide +kernel) (by decide +kernel), V 8 (by decide +kernel), rfl, hQ⟩
def sn_f (h : mx_H) (j : Nat) : mx_H := sn_h (mx_nw h (.inr (j, 0))) j
theorem sn_n (h : mx_H) (j : Nat) : (sn_f h j).1 = h.1 + 9 := rfl
theorem sn_il (h : mx_H) (j n i : Nat) : (sn_f h j).2.1 (.inl n) i = h.2.1 (.inl n) i := rfl
theorem sn_rl (h : mx_H) (j n i : Nat) : (sn_f h j).2.2.2 (.inl n) i = h.2.2.2 (.inl n) i := rfl
theorem sn_ne {j j' o k : Nat} (hne : ¬ (j' = j ∧ o < 9)) (hk : k < 9) : ((Sum.inr (j', o) : mx_A) = .inr (j, k)) = False := eq_false (fun q => hne ⟨(sf_ir q).1, by rw [(sf_ir q).2]; exact hk⟩)
theorem sn_io {h : mx_H} {j j' o : Nat} (i : Nat) (hne : ¬ (j' = j ∧ o < 9)) : (sn_f h j).2.1 (.inr (j', o)) i = h.2.1 (.inr (j', o)) i := by
  simp only [sn_f, sn_h, mx_uI, mx_uR, mx_nw, mx_up, mx_z, sn_ne hne (show 0 < 9 by decide +kernel), sn_ne hne (show 1 < 9 by decide +kernel), sn_ne hne (show 2 < 9 by decide +kernel), sn_ne hne (show 3 < 9 by decide +kernel), sn_ne hne (show 4 < 9 by decide +kernel), sn_ne hne (show 5 < 9 by decide +kernel), sn_ne hne (show 6 < 9 by decide +kernel), sn_ne hne (show 7 < 9 by decide +kernel), sn_ne hne (show 8 < 9 by decide +kernel), false_and, if_false]
theorem sn_ro {h : mx_H} {j j' o : Nat} (i : Nat) (hne : ¬ (j' = j ∧ o < 9)) : (sn_f h j).2.2.2 (.inr (j', o)) i = h.2.2.2 (.inr (j', o)) i := by
  simp only [sn_f, sn_h, mx_uI, mx_uR, mx_nw, mx_up, mx_z, sn_ne hne (show 0 < 9 by decide +kernel), sn_ne hne (show 1 < 9 by decide +kernel), sn_ne hne (show 2 < 9 by decide +kernel), sn_ne hne (show 3 < 9 by decide +kernel), sn_ne hne (show 4 < 9 by decide +kernel), sn_ne hne (show 5 < 9 by decide +kernel), sn_ne hne (show 6 < 9 by decide +kernel), sn_ne hne (show 7 < 9 by decide +kernel), sn_ne hne (show 8 < 9 by decide +kernel), false_and, if_false]
theorem sn_oo {j o k : Nat} (h : ¬ o = k) : ((Sum.inr (j, o) : mx_A) = .inr (j, k)) = False := eq_false (sf_oo h)
theorem sn_i0 {h : mx_H} {j : Nat} (i : Nat) : (sn_f h j).2.1 (.inr (j, 0)) i = if i = 12 then -1 else if i = 11 then -1 else 0 := by
  simp only [sn_f, sn_h, mx_uI, mx_uR, mx_nw, mx_up, mx_z, true_and, if_true, sn_oo (show ¬ 0 = 1 by decide +kernel), sn_oo (show ¬ 0 = 2 by decide +kernel), sn_oo (show ¬ 0 = 3 by decide +kernel), sn_oo (show ¬ 0 = 4 by decide +kernel), sn_oo (show ¬ 0 = 5 by decide +kernel), sn_oo (show ¬ 0 = 6 by decide +kernel), sn_oo (show ¬ 0 = 7 by decide +kernel), sn_oo (show ¬ 0 = 8 by decide +kernel), if_false, ite_self]
theorem sn_is {h : mx_H} {j o : Nat} (i : Nat) (h1 : 1 ≤ o) (h9 : o < 9) : (sn_f h j).2.1 (.inr (j, o)) i = 0 := by
  have ho : o = 1 ∨ o = 2 ∨ o = 3 ∨ o = 4 ∨ o = 5 ∨ o = 6 ∨ o = 7 ∨ o = 8 := by omega
  rcases ho with rfl | rfl | rfl | rfl | rfl | rfl | rfl | rfl <;>
  simp [sn_f, sn_h, mx_uI, mx_uR, mx_nw, mx_up, mx_z]
theorem sn_r0 {h : mx_H} {j : Nat} (k : Nat) : (sn_f h j).2.2.2 (.inr (j, 0)) k = (mx_frS.getD k none).map (fun x => (.inr (j, x) : mx_A)) := by
  simp only [sn_f, sn_h, mx_uI, mx_uR, mx_nw, mx_up, mx_z, true_and, if_true, sn_oo (show ¬ 0 = 1 by decide +kernel), sn_oo (show ¬ 0 = 2 by decide +kernel), sn_oo (show ¬ 0 = 3 by decide +kernel), sn_oo (show ¬ 0 = 4 by decide +kernel), sn_oo (show ¬ 0 = 5 by decide +kernel), sn_oo (show ¬ 0 = 6 by decide +kernel), sn_oo (show ¬ 0 = 7 by decide +kernel), sn_oo (show ¬ 0 = 8 by decide +kernel), if_false]
  rcases k with _ | _ | _ | _ | _ | _ | _ | _ | _ | _ | _ | _ | _ | k
  all_goals first | rfl | skip
/-- the constant references hold with the new shape -/
theorem sn_fi {h : mx_H} {j : Nat} (hj : ¬ j = 0) (hn : h.1 = 158 + 9 * j) (hf : mx_Fi h) : mx_Fi (mx_uR (sn_f h j) (.inl 0) 3 (some (.inr (j, 0)))) := by
  intro a k b hb ha
  rcases a with n | ⟨j', o⟩
  · have hk : ¬ ((Sum.inl n : mx_A) = .inl 0 ∧ k = 3) := fun q => by
      rw [q.1, q.2] at hb
      cases hb
    refine (if_neg hk).trans (hf _ _ _ hb ⟨ha.1, ?_⟩)
    have hv : n < 4 ∨ (35 ≤ n ∧ n < 38) ∨ (60 ≤ n ∧ n < 99) ∨ (105 ≤ n ∧ n < 167) := ha.1
    show n < h.1
    omega
  · have e0 : (mx_uR (sn_f h j) (.inl 0) 3 (some (.inr (j, 0)))).2.2.2 (.inr (j', o)) k = (sn_f h j).2.2.2 (.inr (j', o)) k := rfl
    rw [e0]
    by_cases c : j' = j ∧ o < 9
    · obtain ⟨rfl, ho⟩ := c
      by_cases o0 : o = 0
      · subst o0
        rw [sn_r0]
        exact hb
      · exfalso
        have e : mx_fn true (.inr (j', o)) k = none := by
          have : o = 1 ∨ o = 2 ∨ o = 3 ∨ o = 4 ∨ o = 5 ∨ o = 6 ∨ o = 7 ∨ o = 8 := by omega
          rcases this with rfl | rfl | rfl | rfl | rfl | rfl | rfl | rfl <;> rfl
        rw [e] at hb
        cases hb
    · rw [sn_ro k c]
      refine hf _ _ _ hb ⟨ha.1, ?_⟩
      have hp : mx_pos (.inr (j', o)) < h.1 + 9 := ha.2
      have hv : o < 9 ∨ (o = 20 ∧ j' < 6) ∨ (30 ≤ o ∧ o < 41 ∧ j' < 4) := ha.1
      rcases hv with hv | ⟨rfl, hv⟩ | ⟨v1, v2, v3⟩
      · rw [mx_pos_s j' hv] at hp ⊢
        by_cases z : j' = 0
        · rw [if_pos z]
          omega
        · rw [if_neg z] at hp ⊢
          omega
      · rw [mx_pos_r]
        omega
      · rw [mx_pos_n j' v1]
        have : mx_nb j' ≤ 49 := by
          have : j' = 0 ∨ j' = 1 ∨ j' = 2 ∨ j' = 3 := by omega
          rcases this with rfl | rfl | rfl | rfl <;> decide
        omega
/-! every bound holds 0 -/
theorem sn_z {r : Nat} : (sf_bR r).1 ≤ 0 ∧ 0 ≤ (sf_bR r).2 := by
  have A : ∀ l ∈ sf_bdT, ∀ x ∈ l, x.1 ≤ 0 ∧ 0 ≤ x.2 := by decide +kernel
  unfold sf_bR
  rw [List.getD_eq_getElem?_getD, List.getD_eq_getElem?_getD]
  cases e : (sf_bdT[r / 16]?.getD [])[r % 16]? with
  | none => exact ⟨by decide +kernel, by decide +kernel⟩
  | some x =>
    have hx := List.mem_of_getElem? e
    cases e2 : sf_bdT[r / 16]? with
    | none =>
      rw [e2] at hx
      cases hx
    | some l =>
      rw [e2] at hx
      exact A l (List.mem_of_getElem? e2) x hx
theorem sn_iv0 (a : mx_A) (i : Nat) : sf_iv (sf_bd a i).1 (sf_bd a i).2 0 := by
  have := sn_z (r := sf_rg a i)
  exact this
/-- a call wrote no more than what the mask names, of the fixed cells' ints -/
def sf_El (m : Nat) (h h' : mx_H) : Prop := ∀ n i, m.testBit (sf_rg (.inl n) i) = false → h'.2.1 (.inl n) i = h.2.1 (.inl n) i
theorem sf_E.l {m : Nat} {h h' : mx_H} (e : sf_E m h h') : sf_El m h h' := fun n i q => e.1 (.inl n) i q
theorem sf_EtL {m k : Nat} {h h1 h2 : mx_H} (hs : k &&& m = k) (hE : sf_E m h h1) (hk : sf_El k h1 h2) : sf_El m h h2 := fun n i hf => (hk n i (sf_sub hs hf)).trans (hE.1 (.inl n) i hf)
theorem sf_EtM {m k : Nat} {h h1 h2 : mx_H} (hs : k &&& m = k) (hE : sf_El m h h1) (hk : sf_El k h1 h2) : sf_El m h h2 := fun n i hf => (hk n i (sf_sub hs hf)).trans (hE n i hf)
/-- the draft among the shapes, a new draft -/
def sn_g (h : mx_H) (c m : Nat) (v : Int32) : mx_H := mx_uI (mx_uR h (.inl 3) c (some (.inr (m, 0)))) (.inl 0) 2 v
def sn_k (h : mx_H) (c m : Nat) (v : Int32) : mx_H := mx_uR (sn_f (sn_g h c m v) (m + 1)) (.inl 0) 3 (some (.inr (m + 1, 0)))
theorem sn_kil {h : mx_H} {c m : Nat} {v : Int32} {n i : Nat} (q : ¬ (n = 0 ∧ i = 2)) : (sn_k h c m v).2.1 (.inl n) i = h.2.1 (.inl n) i := by
  show (if (Sum.inl n : mx_A) = .inl 0 ∧ i = 2 then v else h.2.1 (.inl n) i) = _
  rw [if_neg (fun e => q ⟨Sum.inl.inj e.1, e.2⟩)]
theorem sn_jf {h : mx_H} {c m : Nat} {v : Int32} {n i : Nat} (q : ¬ (n = 0 ∧ i = 2)) : sf_jf (sn_k h c m v) (.inl n) i = sf_jf h (.inl n) i := by
  unfold sf_jf
  rw [sn_kil q]
theorem sn_kio {h : mx_H} {c m : Nat} {v : Int32} {j' o : Nat} (i : Nat) (q : ¬ (j' = m + 1 ∧ o < 9)) : (sn_k h c m v).2.1 (.inr (j', o)) i = h.2.1 (.inr (j', o)) i := (sn_io (h := sn_g h c m v) i q).trans rfl
theorem sn_I {h : mx_H} {c m : Nat} {v : Int32} (hI : sf_I h) (hm : h.2.2.2 (.inl 0) 3 = some (.inr (m, 0))) (hn : h.1 = 167 + 9 * m) (hv : v.toInt = (m : Int) + 1) (h12 : m + 1 ≤ 12) : sf_I (sn_k h c m v) := by
  refine ⟨fun a i => ?_, fun a i b hs hb => ?_, ⟨?_, ?_, ?_, ?_⟩, ?_⟩
  · rcases a with n | ⟨j', o⟩
    · by_cases q : n = 0 ∧ i = 2
      · obtain ⟨rfl, rfl⟩ := q
        show sf_iv 0 12 v
        exact ⟨by omega, by omega⟩
      · exact iv_e (sn_kil q) (hI.1 _ _)
    · by_cases q : j' = m + 1 ∧ o < 9
      · obtain ⟨rfl, ho⟩ := q
        by_cases o0 : o = 0
        · subst o0
          show sf_iv _ _ ((sn_f (sn_g h c m v) (m + 1)).2.1 (.inr (m + 1, 0)) i)
          rw [sn_i0]
          by_cases q1 : i = 12
          · subst q1
            rw [if_pos rfl]
            rw [show sf_bd (.inr (m + 1, 0)) 12 = (-1, 11) from (show sf_bR 391 = (-1, 11) from rfl)]
            exact ⟨by decide +kernel, by decide +kernel⟩
          · rw [if_neg q1]
            by_cases q2 : i = 11
            · subst q2
              rw [if_pos rfl]
              rw [show sf_bd (.inr (m + 1, 0)) 11 = (-1, 11) from (show sf_bR 390 = (-1, 11) from rfl)]
              exact ⟨by decide +kernel, by decide +kernel⟩
            · rw [if_neg q2]
              exact sn_iv0 _ _
        · show sf_iv _ _ ((sn_f (sn_g h c m v) (m + 1)).2.1 (.inr (m + 1, o)) i)
          rw [sn_is i (by omega) ho]
          exact sn_iv0 _ _
      · exact iv_e (sn_kio i q) (hI.1 _ _)
  · rcases a with n | q
    · by_cases q : (Sum.inl n : mx_A) = .inl 0 ∧ i = 3
      · rw [show (sn_k h c m v).2.2.2 (.inl n) i = some (.inr (m + 1, 0)) from if_pos q] at hb
        cases hb
        exact ⟨_, rfl⟩
      · rw [show (sn_k h c m v).2.2.2 (.inl n) i = (mx_uR h (.inl 3) c (some (.inr (m, 0)))).2.2.2 (.inl n) i from if_neg q] at hb
        by_cases q2 : (Sum.inl n : mx_A) = .inl 3 ∧ i = c
        · rw [show (mx_uR h (.inl 3) c (some (.inr (m, 0)))).2.2.2 (.inl n) i = some (.inr (m, 0)) from if_pos q2] at hb
          cases hb
          exact ⟨_, rfl⟩
        · rw [show (mx_uR h (.inl 3) c (some (.inr (m, 0)))).2.2.2 (.inl n) i = h.2.2.2 (.inl n) i from if_neg q2] at hb
          exact hI.2.1 _ _ _ hs hb
    · cases hs
  · intro j' k hk
    by_cases q : j' = m + 1
    · subst q
      exfalso
      rw [sf_jfr (r := 385) rfl rfl, show (sn_k h c m v).2.1 (.inr (m + 1, 0)) 6 = (sn_f (sn_g h c m v) (m + 1)).2.1 (.inr (m + 1, 0)) 6 from rfl, sn_i0] at hk
      rw [show ((if 6 = 12 then (-1 : Int32) else if 6 = 11 then -1 else 0)).toInt = 0 from rfl] at hk
      omega
    · have e : ∀ o i, sf_jf (sn_k h c m v) (.inr (j', o)) i = sf_jf h (.inr (j', o)) i := fun o i => by
        unfold sf_jf
        rw [sn_kio i (fun q2 => q q2.1)]
      rw [e] at hk
      rw [e, e, e]
      exact hI.2.2.1.1 j' k hk
  · exact sf_J2_c (sn_jf (by decide +kernel)) (fun i => sn_jf (by simp)) (fun i => sn_jf (by simp)) hI.2.2.1.2.1
  · exact sf_J3_c (sn_jf (by decide +kernel)) (sn_jf (by decide +kernel)) (fun i => sn_jf (by simp)) (fun i => sn_jf (by simp)) hI.2.2.1.2.2.1
  · obtain ⟨m', h1, h2, h3, h4⟩ := hI.2.2.1.2.2.2
    have em : m = m' := by rw [h1] at hm; cases hm; rfl
    subst em
    refine ⟨m + 1, rfl, ?_, ?_, ?_⟩
    · show h.1 + 9 = _
      omega
    · rw [sf_jfr (r := 2) rfl rfl]
      show v.toInt = _
      omega
    · intro i j' hb
      have hb' : (mx_uR h (.inl 3) c (some (.inr (m, 0)))).2.2.2 (.inl 3) i = some (.inr (j', 0)) := hb
      by_cases q2 : i = c
      · rw [show (mx_uR h (.inl 3) c (some (.inr (m, 0)))).2.2.2 (.inl 3) i = some (.inr (m, 0)) from if_pos ⟨rfl, q2⟩] at hb'
        cases hb'
        omega
      · rw [show (mx_uR h (.inl 3) c (some (.inr (m, 0)))).2.2.2 (.inl 3) i = h.2.2.2 (.inl 3) i from if_neg (fun e => q2 e.2)] at hb'
        have := h4 i j' hb'
        omega
  · exact sf_JR_c (fun k i hk => sn_jf (by omega)) hI.2.2.2
/-- the draft becomes a shape -/
theorem sf169t {E : mx_Ev} {d : Nat} {h h0 : mx_H} {Q : Option mx_V → mx_H → Prop} (hI : sf_I h) (hE : sf_El 1862887453319671130553461982299578151529364904859901145530037279011111790160225641534390178439221559082035016942161750242474590220 h0 h) (hs : (h.2.1 (.inl 0) 2).toInt ≤ 11) {m : Nat} (hm : h.2.2.2 (.inl 0) 3 = some (.inr (m, 0)))
    (hQ : ∀ x h', sf_I h' → sf_El 1862887453319671130553461982299578151529364904859901145530037279011111790160225641534390178439221559082035016942161750242474590220 h0 h' → sf_iv 0 11 x → Q (some (.inl (.int x))) h') :
    mx_T E (mx_fn true) (d + 2) 9 97 169 70 [(0, .inr (.inl 0))] [.inr (.inl 0)] (sn_g h (h.2.1 (.inl 0) 2).toNatClampNeg m (h.2.1 (.inl 0) 2 + 1)) Q := by
  refine mx_T.leave2 (fun Q' hq' => ?_)
  obtain ⟨m', h1, h2, h3, h4⟩ := hI.2.2.1.2.2.2
  have em : m = m' := by rw [h1] at hm; cases hm; rfl
  subst em
  rw [sf_jfr (r := 2) rfl rfl] at h3
  have hb := sf_rd (r := 2) (lo := 0) (hi := 12) hI (.inl 0) 2 rfl rfl
  have hx : h.2.1 (.inl 0) 2 = nI m := Int32.toInt_inj.mp (by rw [nI_toInt (by omega)]; exact h3)
  have hj : ¬ m + 1 = 0 := by omega
  refine sg169_70 ⟨.inr (m + 1, 0), ?_, Or.inl (by decide +kernel), rfl, sn58 hj ?_ ?_⟩
  · rw [sn_pos hj (by decide +kernel)]
    show _ = h.1
    omega
  · show h.1 + 1 = _
    omega
  · intro _
    have hv : (h.2.1 (.inl 0) 2 + 1).toInt = (m : Int) + 1 := by
      rw [hx, nI_1, nI_toInt (by omega)]
      omega
    refine hq' _ _ (fun hf => sn_fi hj (by show h.1 = _; omega) hf) (hQ _ _ (sn_I (c := (h.2.1 (.inl 0) 2).toNatClampNeg) hI hm h2 hv (by omega)) ?_ ?_)
    · intro n i q
      refine (sn_kil ?_).trans (hE n i q)
      intro e
      rw [e.1, e.2] at q
      revert q
      decide
    · show sf_iv 0 11 (h.2.1 (.inl 0) 2 + 1 - 1)
      rw [Int32.add_sub_cancel]
      exact ⟨hb.1, hs⟩
theorem sf169_16 {E : mx_Ev} {d : Nat} {h0 : mx_H} {Q : Option mx_V → mx_H → Prop} (hQ : ∀ x h', sf_I h' → sf_El 1862887453319671130553461982299578151529364904859901145530037279011111790160225641534390178439221559082035016942161750242474590220 h0 h' → sf_iv 0 11 x → Q (some (.inl (.int x))) h') : ∀ (n : Nat) {a1 : Int32} {h : mx_H}, (2147483647 - a1.toInt).toNat < n → sf_iv 0 15 a1 → (h.2.1 (.inl 0) 2).toInt ≤ 11 → sf_I h → sf_El 1862887453319671130553461982299578151529364904859901145530037279011111790160225641534390178439221559082035016942161750242474590220 h0 h → mx_T E (mx_fn true) (d + 2) 9 97 169 16 [(0, .inr (.inl 0)), (1, .inl (.int a1))] [] h Q
  | 0, _, _, hm, _, _, _, _ => absurd hm (Nat.not_lt_zero _)
  | n + 1, a1, h, hm, pa1, hs, hI, hE => by
    have hd := sf_rd (r := 2) (lo := 0) (hi := 12) hI (.inl 0) 2 rfl rfl
    refine sg169_16 ⟨fun j1 q1 => ⟨fun g => ⟨fun j4 q4 => ⟨?_, rfl, sf169t (d := d) hI hE hs q4 hQ⟩, fun q => absurd q (sf_dn hI), sf_rt hI rfl⟩, fun g => ⟨fun j7 q7 => sf37 (iv_w (c := 0) (d := 5) ivk_1 (by decide +kernel)) hI (fun x h' I' E' X' => ?_), fun q => absurd q (sf_dn hI), sf_rt hI rfl⟩⟩, fun q => absurd q (sf_dn hI), sf_rt hI rfl⟩
    · exact iv_in (a := 0) (b := 11) (n := 12) ⟨hd.1, hs⟩ (by decide +kernel)
    · intro x' _
      have hp := sf_rd (r := 385) (lo := 0) (hi := 15) hI (.inr (j1, 0)) 6 rfl rfl
      have g' := Int32.lt_iff_toInt_lt.mp (Int32.not_le.mp g)
      have e1 : (a1 + 1).toInt = a1.toInt + 1 := li_add (a := 0) (b := 15) (c := 1) (d := 1) pa1 ivk_1 (by decide +kernel) rfl rfl
      refine sf169_16 hQ n (by rw [e1]; have := pa1.2; omega) ⟨by rw [e1]; have := pa1.1; omega, by rw [e1]; have := hp.2; omega⟩ ?_ I' (sf_EtM (by decide +kernel) hE E'.l)
      rw [sf_fr (r := 2) E' rfl (by decide +kernel)]
      exact hs
theorem sf169 {E : mx_Ev} {d : Nat} {h : mx_H} {Q : Option mx_V → mx_H → Prop} (r0 : (h.2.1 (.inl 0) 2 : Int32).toInt ≤ 11) (hI : sf_I h) (hQ : ∀ x h', sf_I h' → sf_El 1862887453319671130553461982299578151529364904859901145530037279011111790160225641534390178439221559082035016942161750242474590220 h h' → sf_iv 0 11 x → Q (some (.inl (.int x))) h') : mx_C E (mx_fn true) (d + 2) 169 [.inr (.inl 0)] h Q := by
  refine sg169_0 ⟨fun j1 q1 => ?_, fun q => absurd q (sf_dn hI), sf_rt hI rfl⟩
  have hc := sf_rd (r := 202) (lo := 0) (hi := 200) hI (.inl 90) 0 rfl rfl
  have hI1 : sf_I (mx_uI h (.inr (j1, 0)) 5 (h.2.1 (.inl 90) 0)) := sf_uI (r := 384) hI rfl hc (by decide +kernel)
  exact sf169_16 hQ _ (Nat.lt_succ_self _) (iv_w (c := 0) (d := 15) ivk_0 (by decide +kernel)) r0 hI1 (sf_E.l (sf_Eu (r := 384) rfl (by decide +kernel) (sf_E0 _ _)))
