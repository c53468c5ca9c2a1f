/-! ===== blows: how they begin, what is kept of them ===== -/
section BX
variable {h h' g k hc hr h2 h4 : mx_H} {S N C t c u s n F m m1 m2 e : Nat} {a a1 a2 a3 a4 a5 x y w : Int32}
/-- what is kept of blows, of the ears, of what was told -/
def rb_X (hc hr : mx_H) : Prop := hc.2.1 (.inl 71) 0 = hr.2.1 (.inl 105) 71 ∧ hc.2.1 (.inl 71) 2 = hr.2.1 (.inl 105) 74 ∧ hc.2.1 (.inl 71) 7 = hr.2.1 (.inl 105) 79 ∧ (∀ e, e < 4 → hc.2.1 (.inl 72) e = hr.2.1 (.inl 149) e ∧ hc.2.1 (.inl 73) e = hr.2.1 (.inl 150) e) ∧ (∀ i, i < 800 → hc.2.1 (.inl 74) i = hr.2.1 (.inl 154) i) ∧ ∀ i, i < 6 → hc.2.1 (.inl 77) i = hr.2.1 (.inl 155) i ∧ hc.2.1 (.inl 78) i = hr.2.1 (.inl 156) i ∧ hc.2.1 (.inl 79) i = hr.2.1 (.inl 157) i
theorem k_fi {b : Nat} {q : Nat × Nat} {i : Nat} {v : Int32} : (k_f h (.inl b) n v).2.1 (.inr q) i = h.2.1 (.inr q) i := k_fr.trans (if_neg (fun w => by
  obtain ⟨e, -⟩ := w
  cases e))
theorem k_fl {b c : Nat} {i : Nat} {v : Int32} (e : c ≠ b) : (k_f h (.inl b) n v).2.1 (.inl c) i = h.2.1 (.inl c) i := k_fr.trans (if_neg (fun w => e (Sum.inl.inj w.1)))
theorem k_fz {a : mx_A} {i : Nat} {v : Int32} (hi : i < n) : (k_f h a n v).2.1 a i = v := k_fr.trans (if_pos ⟨rfl, hi⟩)
theorem rb_3 {p1 p2 p3 v i : Nat} (n12 : p1 ≠ p2) (n13 : p1 ≠ p3) (n23 : p2 ≠ p3) : (i = v → (mx_uI (mx_uI (mx_uI h (.inl p1) v x) (.inl p2) v y) (.inl p3) v w).2.1 (.inl p1) i = x ∧ (mx_uI (mx_uI (mx_uI h (.inl p1) v x) (.inl p2) v y) (.inl p3) v w).2.1 (.inl p2) i = y ∧ (mx_uI (mx_uI (mx_uI h (.inl p1) v x) (.inl p2) v y) (.inl p3) v w).2.1 (.inl p3) i = w) ∧ (i ≠ v → (mx_uI (mx_uI (mx_uI h (.inl p1) v x) (.inl p2) v y) (.inl p3) v w).2.1 (.inl p1) i = h.2.1 (.inl p1) i ∧ (mx_uI (mx_uI (mx_uI h (.inl p1) v x) (.inl p2) v y) (.inl p3) v w).2.1 (.inl p2) i = h.2.1 (.inl p2) i ∧ (mx_uI (mx_uI (mx_uI h (.inl p1) v x) (.inl p2) v y) (.inl p3) v w).2.1 (.inl p3) i = h.2.1 (.inl p3) i) := by
  refine ⟨fun e => ?_, fun e => ?_⟩
  · subst e
    exact ⟨by rw [rN n13, rN n12, rI_s], by rw [rN n23, rI_s], rI_s⟩
  · exact ⟨(rI_i e).trans ((rI_i e).trans (rI_i e)), (rI_i e).trans ((rI_i e).trans (rI_i e)), (rI_i e).trans ((rI_i e).trans (rI_i e))⟩
/-- where an ear stands then -/
def bw_e (C : Nat) (x : Int32) : Int32 := if (C : Int) ≤ x.toInt then -1 else x
def br_e (C : Nat) (x : Int32) : Int32 := if 0 ≤ x.toInt ∧ x.toInt ≤ (C : Int) - 1 then x else -1
theorem bw_ee (hx : -1 ≤ x.toInt) : bw_e C x = br_e C x := by
  unfold bw_e br_e
  by_cases z : (C : Int) ≤ x.toInt
  · rw [if_pos z, if_neg (by omega)]
  · rw [if_neg z]
    by_cases z2 : 0 ≤ x.toInt
    · rw [if_pos (by omega)]
    · rw [if_neg (by omega)]
      exact i_eq rfl k_m1 (by omega)
theorem br_eC (z : 0 ≤ (br_e C x).toInt) : (br_e C x).toInt < C := by
  unfold br_e at z ⊢
  by_cases q : 0 ≤ x.toInt ∧ x.toInt ≤ (C : Int) - 1
  · rw [if_pos q]
    omega
  · rw [if_neg q, k_m1] at z
    omega
theorem B3c : ∀ (j e : Nat) (a2 : Int32) {g : mx_H}, e + j = 4 → a2.toInt = (e : Int) → rD g (.inr (0, 30)) 0 = C → (∀ q i, (g3_18 0 a2 g).2.1 (.inr q) i = g.2.1 (.inr q) i) ∧ (∀ q i, q ≠ 73 → (g3_18 0 a2 g).2.1 (.inl q) i = g.2.1 (.inl q) i) ∧ (∀ i, i < e → (g3_18 0 a2 g).2.1 (.inl 73) i = g.2.1 (.inl 73) i) ∧ ∀ i, e ≤ i → i < 4 → (g3_18 0 a2 g).2.1 (.inl 73) i = bw_e C (g.2.1 (.inl 72) i)
  | 0, e, a2, g, ee, ha, hC => by
    rw [g3_18_eq, if_pos (i_le k_4 ha (by omega))]
    exact ⟨fun _ _ => rfl, fun _ _ _ => rfl, fun _ _ => rfl, fun i h1 h2 => by omega⟩
  | j + 1, e, a2, g, ee, ha, hC => by
    have ha' := (i_add ha k_1 (by omega) (by omega)).trans (show (e : Int) + 1 = ((e + 1 : Nat) : Int) by omega)
    have st : g3_18 0 a2 g = g3_18 0 (a2 + 1) (mx_uI g (.inl 73) e (bw_e C (g.2.1 (.inl 72) e))) := by
      rw [g3_18_eq, if_neg (i_nle k_4 ha (by omega)), i_cl ha]
      unfold bw_e
      by_cases z : (C : Int) ≤ (g.2.1 (.inl 72) e).toInt
      · rw [if_pos (i_le hC rfl z), if_pos z]
      · rw [if_neg (i_nle hC rfl (by omega)), if_neg z]
    obtain ⟨q1, q2, q3, q4⟩ := B3c j (e + 1) (a2 + 1) (g := mx_uI g (.inl 73) e (bw_e C (g.2.1 (.inl 72) e))) (by omega) ha' hC
    rw [st]
    refine ⟨fun q i => (q1 q i).trans (rI_a (fun e => by cases e)), fun q i hq => (q2 q i hq).trans (rI_a (fun w => hq (Sum.inl.inj w))), fun i hi => (q3 i (by omega)).trans (rI_i (by omega)), fun i l1 l2 => ?_⟩
    by_cases ic : i = e
    · subst ic
      rw [q3 i (by omega), rI_s]
    · rw [q4 i (by omega) l2, rN (by decide)]
theorem R257a : ∀ (j c : Nat) (a2 : Int32) {k : mx_H}, c + j = 6 → a2.toInt = (c : Int) → (∀ i, i < c → k.2.1 (.inl 151) i = 0 ∧ k.2.1 (.inl 152) i = 0) → ∃ k', g257_7 a1 a2 k = g257_35 a1 0 k' ∧ (∀ q i, q ≠ 151 → q ≠ 152 → k'.2.1 (.inl q) i = k.2.1 (.inl q) i) ∧ ∀ i, i < 6 → k'.2.1 (.inl 151) i = 0 ∧ k'.2.1 (.inl 152) i = 0
  | 0, c, a2, k, e, ha, Z => by
    refine ⟨k, ?_, fun _ _ _ _ => rfl, fun i hi => Z i (by omega)⟩
    rw [g257_7_eq, if_pos (i_le k_6 ha (by omega))]
  | j + 1, c, a2, k, e, ha, Z => by
    have ha' := (i_add ha k_1 (by omega) (by omega)).trans (show (c : Int) + 1 = ((c + 1 : Nat) : Int) by omega)
    obtain ⟨k', q1, q2, q3⟩ := R257a j (c + 1) (a2 + 1) (k := mx_uI (mx_uI k (.inl 151) c 0) (.inl 152) c 0) (by omega) ha' (fun i hi => by
      rw [rN (show (151 : Nat) ≠ 152 by decide)]
      by_cases ic : i = c
      · subst ic
        rw [rI_s, rI_s]
        exact ⟨rfl, rfl⟩
      · rw [rI_i ic, rI_i ic, rN (show (152 : Nat) ≠ 151 by decide)]
        exact Z i (by omega))
    refine ⟨k', ?_, fun q i h1 h2 => ?_, q3⟩
    · rw [g257_7_eq, if_neg (i_nle k_6 ha (by omega)), i_cl ha]
      exact q1
    · rw [q2 q i h1 h2, rI_a (fun w => h2 (Sum.inl.inj w)), rI_a (fun w => h1 (Sum.inl.inj w))]
theorem R257b (h1 : a1.toInt = (s : Int)) (C6 : C ≤ 6) : ∀ (j e : Nat) (a2 : Int32) {k : mx_H}, e + j = 4 → a2.toInt = (e : Int) → rD k (.inl 106) s = C → ∃ k', g257_35 a1 a2 k = mx_uI k' (.inl 105) 74 0 ∧ (∀ q i, q ≠ 150 → k'.2.1 (.inl q) i = k.2.1 (.inl q) i) ∧ (∀ i, i < e → k'.2.1 (.inl 150) i = k.2.1 (.inl 150) i) ∧ ∀ i, e ≤ i → i < 4 → k'.2.1 (.inl 150) i = br_e C (k.2.1 (.inl 149) i)
  | 0, e, a2, k, ee, ha, hC => by
    refine ⟨k, ?_, fun _ _ _ => rfl, fun _ _ => rfl, fun i h1 h2 => by omega⟩
    rw [g257_35_eq, if_pos (i_le k_4 ha (by omega))]
  | j + 1, e, a2, k, ee, ha, hC => by
    have ha' := (i_add ha k_1 (by omega) (by omega)).trans (show (e : Int) + 1 = ((e + 1 : Nat) : Int) by omega)
    have c1 := i_sub hC k_1 (by omega) (by omega)
    have st : g257_35 a1 a2 k = g257_35 a1 (a2 + 1) (mx_uI k (.inl 150) e (br_e C (k.2.1 (.inl 149) e))) := by
      rw [g257_35_eq, if_neg (i_nle k_4 ha (by omega)), i_cl ha, f178_eq, i_cl h1]
      unfold br_e
      by_cases z : 0 ≤ (k.2.1 (.inl 149) e).toInt ∧ (k.2.1 (.inl 149) e).toInt ≤ (C : Int) - 1
      · rw [w173_1 rfl k_0 c1 z, if_neg n10, if_pos z]
      · rw [w173_0 rfl k_0 c1 z, if_pos rfl, if_neg z]
    obtain ⟨k', q1, q2, q3, q4⟩ := R257b h1 C6 j (e + 1) (a2 + 1) (k := mx_uI k (.inl 150) e (br_e C (k.2.1 (.inl 149) e))) (by omega) ha' (by
      unfold rD
      rw [rN (by decide)]
      exact hC)
    refine ⟨k', st.trans q1, fun q i hq => (q2 q i hq).trans (rI_a (fun w => hq (Sum.inl.inj w))), fun i hi => (q3 i (by omega)).trans (rI_i (by omega)), fun i l1 l2 => ?_⟩
    by_cases ic : i = e
    · subst ic
      rw [q3 i (by omega), rI_s]
    · rw [q4 i (by omega) l2, rN (by decide)]
/-- behind the beginning: G of the class, R of the reference -/
def bw_0 (hc hr G R : mx_H) (C : Nat) : Prop := nt_N G R 0 C ∧ (∀ i, i < 6 → G.2.1 (.inl 75) i = 0 ∧ G.2.1 (.inl 76) i = 0 ∧ R.2.1 (.inl 151) i = 0 ∧ R.2.1 (.inl 152) i = 0) ∧ R.2.1 (.inl 105) 74 = 0 ∧ (∀ e, e < 4 → G.2.1 (.inl 73) e = R.2.1 (.inl 150) e ∧ (0 ≤ rD R (.inl 150) e → rD R (.inl 150) e < C)) ∧ (∀ q i, q ≠ 73 → q ≠ 75 → q ≠ 76 → G.2.1 (.inl q) i = hc.2.1 (.inl q) i) ∧ ∀ q i, ¬ (128 ≤ q ∧ q ≤ 131) → ¬ (150 ≤ q ∧ q ≤ 152) → ¬ (q = 105 ∧ (i = 35 ∨ i = 74)) → R.2.1 (.inl q) i = hr.2.1 (.inl q) i
theorem bw_begin (I : sf_I hr) (e1 : rD hr (.inl 105) 1 = S) (hs : s < S) (s12 : S ≤ 12) (N200 : N ≤ 200) (Ds : rs_D hc hr N s C n F) (h1 : a1.toInt = (s : Int)) (X : rb_X hc hr) : bw_0 hc hr (f3 0 (f22 0 s hc)) (f257 a1 hr) C ∧ ∀ i, i < C → (f257 a1 hr).2.1 (.inl 130) i = hr.2.1 (.inl 110) (6 * s + i) := by
  obtain ⟨NN, K, R, R3, -⟩ := nt_load (t := 0) I e1 hs s12 N200 Ds h1 rfl
  obtain ⟨C6, n1, n2, n3, n4⟩ := id NN
  obtain ⟨X1, X2, X3, X4, X5, X6⟩ := X
  have e3 : f3 0 (f22 0 s hc) = g3_18 0 0 (k_f (k_f (f22 0 s hc) (.inl 75) 6 0) (.inl 76) 6 0) := by
    rw [f3_eq, k317 (n := 6) rfl (by decide)]
    simp only [x_h]
    rw [k317 (n := 6) rfl (by decide)]
  obtain ⟨q1, q2, q3, q4⟩ := B3c (C := C) 4 0 0 (g := k_f (k_f (f22 0 s hc) (.inl 75) 6 0) (.inl 76) 6 0) (by decide) rfl n1
  rw [← e3] at q1 q2 q3 q4
  obtain ⟨k1, r1, r2, r3⟩ := R257a (a1 := a1) 6 0 0 (k := f208 a1 hr) (by decide) rfl (fun i hi => absurd hi (Nat.not_lt_zero _))
  obtain ⟨k2, t1, t2, t3, t4⟩ := R257b h1 C6 4 0 0 (k := k1) (by decide) rfl (by
    unfold rD
    rw [r2 106 s (by decide) (by decide), R.2.2.2 106 s (by decide) (nq (by decide))]
    exact Ds.2.2.2.2.1)
  have e4 : f257 a1 hr = mx_uI k2 (.inl 105) 74 0 := by
    rw [f257_eq]
    simp only [x_h]
    rw [r1, t1]
  have gk : ∀ q i, q ≠ 75 → q ≠ 76 → (k_f (k_f (f22 0 s hc) (.inl 75) 6 0) (.inl 76) 6 0).2.1 (.inl q) i = hc.2.1 (.inl q) i := fun q i h1 h2 => (k_fl h2).trans ((k_fl h1).trans (K.2.2.1 q i))
  have gi : ∀ q i, (f3 0 (f22 0 s hc)).2.1 (.inr q) i = (f22 0 s hc).2.1 (.inr q) i := fun q i => (q1 q i).trans (k_fi.trans k_fi)
  have rk : ∀ q i, q ≠ 150 → q ≠ 151 → q ≠ 152 → ¬ (q = 105 ∧ i = 74) → (f257 a1 hr).2.1 (.inl q) i = (f208 a1 hr).2.1 (.inl q) i := fun q i h1 h2 h3 h4 => by
    rw [e4]
    exact (if_neg (fun w => h4 ⟨Sum.inl.inj w.1, w.2⟩)).trans ((t2 q i h1).trans (r2 q i h2 h3))
  refine ⟨⟨⟨C6, ?_, ?_, fun i hi => ?_, fun i j hi hj => ?_⟩, fun i hi => ?_, ?_, fun e he => ?_, fun q i h1 h2 h3 => (q2 q i h1).trans (gk q i h2 h3), fun q i h1 h2 h3 => (rk q i (by omega) (by omega) (by omega) (fun w => h3 ⟨w.1, Or.inr w.2⟩)).trans (R.2.2.2 q i h1 (fun w => h3 ⟨w.1, Or.inl w.2⟩))⟩, fun i hi => (rk 130 i (by decide) (by decide) (by decide) (nq (by decide))).trans (R3 i hi).2.2⟩
  · unfold rD
    rw [gi]
    exact n1
  · unfold rD
    rw [rk 105 35 (by decide) (by decide) (by decide) (by decide)]
    exact n2
  · unfold rD
    rw [gi, gi, gi, rk 128 i (by decide) (by decide) (by decide) (nq (by decide)), rk 129 i (by decide) (by decide) (by decide) (nq (by decide)), rk 130 i (by decide) (by decide) (by decide) (nq (by decide))]
    exact n3 i hi
  · rw [gi, rk 131 _ (by decide) (by decide) (by decide) (nq (by decide))]
    exact n4 i j hi hj
  · refine ⟨(q2 75 i (by decide)).trans ((k_fl (by decide)).trans (k_fz hi)), (q2 76 i (by decide)).trans (k_fz hi), ?_, ?_⟩
    · rw [e4, rN (by decide), t2 151 i (by decide)]
      exact (r3 i hi).1
    · rw [e4, rN (by decide), t2 152 i (by decide)]
      exact (r3 i hi).2
  · rw [e4, rI_s]
  · have b := sf_rd (lo := -1) (hi := 5) (r := 361) I (.inl 149) e rfl (by decide)
    have eR : (f257 a1 hr).2.1 (.inl 150) e = br_e C (hr.2.1 (.inl 149) e) := by
      rw [e4, rN (by decide), t4 e (Nat.zero_le _) he, r2 149 e (by decide) (by decide), R.2.2.2 149 e (by decide) (nq (by decide))]
    refine ⟨?_, ?_⟩
    · rw [eR, q4 e (Nat.zero_le _) he, gk 72 e (by decide) (by decide), (X4 e he).1]
      exact bw_ee b.1
    · unfold rD
      rw [eR]
      exact br_eC
theorem bw_t (z : f173 a 1 200 ≠ 0) : ∃ t : Nat, a.toInt = (t : Int) ∧ 1 ≤ t ∧ t ≤ 200 := by
  rw [w173, k_1, k_200] at z
  by_cases q : 1 ≤ a.toInt ∧ a.toInt ≤ 200
  · exact ⟨a.toInt.toNat, by omega, by omega, by omega⟩
  · exact absurd (if_neg q) z
/-- behind the last step -/
theorem bw_end {G R G1 g' k' : mx_H} (X : rb_X hc hr) (Z : bw_0 hc hr G R C) (g1 : G1 = mx_uI G (.inl 71) 2 a) (ht : a.toInt = (t : Int)) (A : bw_A G1 R g' k' C t) : rb_X g' k' := by
  obtain ⟨X1, X2, X3, X4, X5, X6⟩ := X
  obtain ⟨Z1, Z2, Z3, Z4, Z5, Z6⟩ := Z
  obtain ⟨K, Q, A1, A2, A3⟩ := A
  have gq : ∀ q i, q ≠ 71 → ¬ (73 ≤ q ∧ q ≤ 76) → g'.2.1 (.inl q) i = hc.2.1 (.inl q) i := fun q i h1 h2 => by
    rw [K.2 q i (by omega), g1, rI_a (fun w => h1 (Sum.inl.inj w)), Z5 q i (by omega) (by omega) (by omega)]
  have kq : ∀ q i, ¬ (128 ≤ q ∧ q ≤ 131) → ¬ (150 ≤ q ∧ q ≤ 154) → ¬ (q = 105 ∧ (i = 35 ∨ i = 74)) → k'.2.1 (.inl q) i = hr.2.1 (.inl q) i := fun q i h1 h2 h3 => by
    rw [Q q i (by omega) (fun w => h3 ⟨w.1, Or.inr w.2⟩), Z6 q i h1 (by omega) h3]
  refine ⟨?_, ?_, ?_, fun e he => ⟨?_, ?_⟩, A2, fun i hi => ?_⟩
  · rw [K.2 71 0 (by decide), g1, rI_i (by decide), Z5 71 0 (by decide) (by decide) (by decide), kq 105 71 (by decide) (by decide) (by decide)]
    exact X1
  · refine i_eq (p := (t : Int)) (q := (t : Int)) ?_ A3 rfl
    rw [K.2 71 2 (by decide), g1, rI_s]
    exact ht
  · rw [K.2 71 7 (by decide), g1, rI_i (by decide), Z5 71 7 (by decide) (by decide) (by decide), kq 105 79 (by decide) (by decide) (by decide)]
    exact X3
  · rw [gq 72 e (by decide) (by decide), kq 149 e (by decide) (by decide) (nq (by decide))]
    exact (X4 e he).1
  · rw [K.2 73 e (by decide), g1, rN (by decide), Q 150 e (by decide) (nq (by decide))]
    exact (Z4 e he).1
  · rw [gq 77 i (by decide) (by decide), gq 78 i (by decide) (by decide), gq 79 i (by decide) (by decide), kq 155 i (by decide) (by decide) (nq (by decide)), kq 156 i (by decide) (by decide) (nq (by decide)), kq 157 i (by decide) (by decide) (nq (by decide))]
    exact X6 i hi
theorem bw_B0 {G R : mx_H} (X : rb_X hc hr) (Z : bw_0 hc hr G R C) : bw_B (mx_uI G (.inl 71) 2 a) R C := by
  obtain ⟨Z1, Z2, Z3, Z4, Z5, Z6⟩ := Z
  refine ⟨Z1, ?_, fun e he => ?_⟩
  · rw [rI_i (by decide), Z5 71 0 (by decide) (by decide) (by decide), Z6 105 71 (by decide) (by decide) (by decide)]
    exact X.1
  · rw [rN (by decide)]
    exact Z4 e he
theorem st_blow (I : sf_I hr) (A : rs_A hc hr S N) (X : rb_X hc hr) : (f131 a1 a2 a3 a4 hc).1 = (f259 a1 a2 a3 a4 hr).1 ∧ rb_X (f131 a1 a2 a3 a4 hc).2 (f259 a1 a2 a3 a4 hr).2 := by
  obtain ⟨A1, A2, A3, A4, A5, A6, A7, A8, A9, A10⟩ := id A
  have K := f131_eq a1 a2 a3 a4 hc
  have T := f259_eq a1 a2 a3 a4 hr
  rcases C166 (a := a1) A with ⟨s, lt, h1, e1, e1'⟩ | ⟨e1, e1'⟩
  · obtain ⟨C, n, F, Ds⟩ := (A9 s lt).2
    have C6 := Ds.2.1
    rw [e1] at K
    simp only [x_opt] at K
    rw [if_neg (by rw [e1']; exact n10)] at T
    rcases C164 (x := a2) h1 Ds.2.2.2.1 Ds.2.2.2.2.1 Ds.2.1 with ⟨c, hc1, hx, g1, g1'⟩ | ⟨g1, g1'⟩
    · rw [if_neg (by rw [g1]; exact n10), f159_eq, w_ws, w_ws] at K
      rw [if_neg (by rw [g1']; exact n10)] at T
      by_cases c3 : f173 a3 (-99) 99 = 0
      · rw [if_pos c3] at K T
        rw [K, T]
        exact ⟨rfl, X⟩
      · rw [if_neg c3] at K T
        by_cases c4 : f173 a4 1 200 ≠ 0
        · rw [if_pos c4] at K T
          obtain ⟨d1, d2, d3, d4⟩ := Ds.2.2.2.2.2.2.2.1 c hc1
          have hp := w6 h1 hx (show s ≤ 12 by omega) (show c < 6 by omega)
          rw [i_cl hx, d4] at K
          rw [i_cl hp, i_cl hx] at T
          by_cases c5 : hr.2.1 (.inl 110) (6 * s + c) = 0
          · rw [if_pos c5] at K T
            obtain ⟨t, ht, t1, t2⟩ := bw_t c4
            obtain ⟨Z, Zh⟩ := bw_begin I A4 lt A1 A2 Ds h1 X
            obtain ⟨Z1, Z2, Z3, Z4, Z5, Z6⟩ := id Z
            have hd : (f3 0 (f22 0 s hc)).2.1 (.inr (0, 33)) c = 0 := (Z1.2.2.2.1 c hc1).2.2.2.trans ((Zh c hc1).trans c5)
            have e4 : f4 0 a2 a3 (f3 0 (f22 0 s hc)) = mx_uI (f3 0 (f22 0 s hc)) (.inl 76) c (64 * a3) := by
              rw [f4_eq, if_neg (i_nle Z1.2.1 hx (by omega)), i_cl hx, if_neg (fun w => w hd), (Z2 c (by omega)).2.1, Int32.zero_add]
            simp only [x_h, x_let] at K T
            rw [e4, f5_eq] at K
            obtain ⟨v, g', k', q1, q2, q3⟩ := B5b (bw_B0 (a := a4) X Z) ht t2 t 0 0 0 (g := mx_uI (mx_uI (f3 0 (f22 0 s hc)) (.inl 76) c (64 * a3)) (.inl 71) 2 a4) (k := mx_uI (f257 a1 hr) (.inl 152) c (a3 * 64)) (by omega) rfl (by decide) ⟨⟨fun q i => rfl, (by
              intro q i hq
              have e1 : (mx_uI (f3 0 (f22 0 s hc)) (.inl 76) c (64 * a3)).2.1 (.inl q) i = (f3 0 (f22 0 s hc)).2.1 (.inl q) i := rI_a (fun w => hq (by have := Sum.inl.inj w; omega))
              rw [rI, e1, rI])⟩, fun q i h1 h2 => rI_a (fun w => h1 (by have := Sum.inl.inj w; omega)), (by
              intro i hi
              obtain ⟨z1, z2, z3, z4⟩ := Z2 i (by omega)
              rw [rN (show (75 : Nat) ≠ 71 by decide), rN (show (75 : Nat) ≠ 76 by decide), rN (show (76 : Nat) ≠ 71 by decide), rN (show (151 : Nat) ≠ 152 by decide), z1, z3]
              by_cases ic : i = c
              · subst ic
                rw [rI_s, rI_s, Int32.mul_comm]
                refine ⟨rfl, rfl, fun w => absurd ?_ w⟩
                rw [← (Z1.2.2.2.1 i hc1).2.2.2]
                exact hd
              · rw [rI_i ic, rI_i ic, z2, z4]
                exact ⟨rfl, rfl, fun _ => ⟨rfl, rfl⟩⟩), (by
              intro i hi
              rw [rN (show (74 : Nat) ≠ 71 by decide), rN (show (74 : Nat) ≠ 76 by decide), rN (show (154 : Nat) ≠ 152 by decide), Z5 74 i (by decide) (by decide) (by decide), Z6 154 i (by decide) (by decide) (nq (by decide))]
              exact X.2.2.2.2.1 i hi), (by
              unfold rD
              rw [rN (by decide), Z3]
              rfl)⟩
            rw [q1] at K
            rw [q2] at T
            rw [K, T]
            exact ⟨rfl, bw_end X Z rfl ht q3⟩
          · rw [if_neg c5] at K T
            rw [K, T]
            exact ⟨rfl, X⟩
        · rw [if_neg c4] at K T
          rw [K, T]
          exact ⟨rfl, X⟩
    · rw [if_pos g1] at K
      rw [if_pos g1'] at T
      rw [K, T]
      exact ⟨rfl, X⟩
  · rw [e1] at K
    simp only [x_opt] at K
    rw [if_pos e1'] at T
    rw [K, T]
    exact ⟨rfl, X⟩
theorem st_rolledX (I : sf_I hr) (A : rs_A hc hr S N) (X : rb_X hc hr) : (f133 a1 a2 hc).1 = (f261 a1 a2 hr).1 ∧ rb_X (f133 a1 a2 hc).2 (f261 a1 a2 hr).2 := by
  obtain ⟨A1, A2, A3, A4, A5, A6, A7, A8, A9, A10⟩ := id A
  have K := f133_eq a1 a2 hc
  have T := f261_eq a1 a2 hr
  rcases C166 (a := a1) A with ⟨s, lt, h1, e1, e1'⟩ | ⟨e1, e1'⟩
  · obtain ⟨C, n, F, Ds⟩ := (A9 s lt).2
    have C6 := Ds.2.1
    rw [e1] at K
    simp only [x_opt] at K
    rw [if_neg (by rw [e1']; exact n10)] at T
    rw [w_ws] at K
    by_cases c4 : f173 a2 1 200 ≠ 0
    · rw [if_pos c4] at K T
      have b := sf_rd (lo := 0) (hi := 6) (r := 303) I (.inl 105) 79 rfl (by decide)
      by_cases c5 : hr.2.1 (.inl 105) 79 ≠ 0
      · rw [if_pos (show hc.2.1 (.inl 71) 7 ≠ 0 by rw [X.2.2.1]; exact c5)] at K
        rw [if_pos c5] at T
        obtain ⟨t, ht, t1, t2⟩ := bw_t c4
        obtain ⟨Z, Zh⟩ := bw_begin I A4 lt A1 A2 Ds h1 X
        obtain ⟨Z1, Z2, Z3, Z4, Z5, Z6⟩ := id Z
        obtain ⟨b1, b2⟩ := b
        have hn : (hr.2.1 (.inl 105) 79).toInt = (((hr.2.1 (.inl 105) 79).toInt.toNat : Nat) : Int) := by omega
        generalize hv : (hr.2.1 (.inl 105) 79).toInt.toNat = v at hn
        have e7 : (f3 0 (f22 0 s hc)).2.1 (.inl 71) 7 = hr.2.1 (.inl 105) 79 := (Z5 71 7 (by decide) (by decide) (by decide)).trans X.2.2.1
        simp only [x_h, x_let] at K T
        rw [e7, f5_eq] at K
        obtain ⟨w, g', k', q1, q2, q3⟩ := B5r (bw_B0 (a := a2) X Z) (n := v) (fun i hi => by
          obtain ⟨x1, x2, x3⟩ := X.2.2.2.2.2 i hi
          have b := sf_rd (lo := 0) (hi := 5) (r := 367) I (.inl 155) i rfl (by decide)
          unfold rD
          rw [rN (show (77 : Nat) ≠ 71 by decide), rN (show (78 : Nat) ≠ 71 by decide), rN (show (79 : Nat) ≠ 71 by decide), Z5 77 i (by decide) (by decide) (by decide), Z5 78 i (by decide) (by decide) (by decide), Z5 79 i (by decide) (by decide) (by decide), Z6 155 i (by decide) (by decide) (nq (by decide)), Z6 156 i (by decide) (by decide) (nq (by decide)), Z6 157 i (by decide) (by decide) (nq (by decide))]
          exact ⟨x1, x2, x3, b.1⟩) hn (by omega) (by
          unfold rD
          rw [Z6 105 79 (by decide) (by decide) (by decide)]
          exact hn) ht t2 t 0 0 0 (g := mx_uI (f3 0 (f22 0 s hc)) (.inl 71) 2 a2) (k := f257 a1 hr) (by omega) rfl (by decide) ⟨⟨fun q i => rfl, fun q i hq => rfl⟩, fun q i h1 h2 => rfl, (by
          intro i hi
          obtain ⟨z1, z2, z3, z4⟩ := Z2 i (by omega)
          rw [rN (show (75 : Nat) ≠ 71 by decide), rN (show (76 : Nat) ≠ 71 by decide), z1, z2, z3, z4]
          exact ⟨rfl, rfl, fun _ => ⟨rfl, rfl⟩⟩), (by
          intro i hi
          rw [rN (show (74 : Nat) ≠ 71 by decide), Z5 74 i (by decide) (by decide) (by decide), Z6 154 i (by decide) (by decide) (nq (by decide))]
          exact X.2.2.2.2.1 i hi), (by
          unfold rD
          rw [Z3]
          rfl)⟩
        rw [q1] at K
        rw [q2] at T
        rw [K, T]
        obtain ⟨y1, y2, y3, y4, y5, y6⟩ := bw_end X Z rfl ht q3
        refine ⟨rfl, ?_, ?_, ?_, fun e he => ?_, fun i hi => ?_, fun i hi => ?_⟩
        · show (mx_uI g' (.inl 71) 7 0).2.1 (.inl 71) 0 = (mx_uI k' (.inl 105) 79 0).2.1 (.inl 105) 71
          rw [rI_i (by decide), rI_i (by decide)]
          exact y1
        · show (mx_uI g' (.inl 71) 7 0).2.1 (.inl 71) 2 = (mx_uI k' (.inl 105) 79 0).2.1 (.inl 105) 74
          rw [rI_i (by decide), rI_i (by decide)]
          exact y2
        · show (mx_uI g' (.inl 71) 7 0).2.1 (.inl 71) 7 = (mx_uI k' (.inl 105) 79 0).2.1 (.inl 105) 79
          rw [rI_s, rI_s]
        · exact y4 e he
        · exact y5 i hi
        · exact y6 i hi
      · rw [if_neg (show ¬ hc.2.1 (.inl 71) 7 ≠ 0 by rw [X.2.2.1]; exact c5)] at K
        rw [if_neg c5] at T
        rw [K, T]
        exact ⟨rfl, X⟩
    · rw [if_neg c4] at K T
      rw [K, T]
      exact ⟨rfl, X⟩
  · rw [e1] at K
    simp only [x_opt] at K
    rw [if_pos e1'] at T
    rw [K, T]
    exact ⟨rfl, X⟩
theorem st_damp (X : rb_X hc hr) : (f129 a1 hc).1 = (f254 a1 hr).1 ∧ rb_X (f129 a1 hc).2 (f254 a1 hr).2 := by
  obtain ⟨y1, y2, y3, y4, y5, y6⟩ := id X
  rw [f129_eq, f254_eq, w_ws]
  by_cases c : f173 a1 0 500 ≠ 0
  · rw [if_pos c, if_pos c]
    refine ⟨y1, ?_, ?_, ?_, fun e he => y4 e he, fun i hi => y5 i hi, fun i hi => y6 i hi⟩
    · show (mx_uI hc (.inl 71) 0 a1).2.1 (.inl 71) 0 = (mx_uI hr (.inl 105) 71 a1).2.1 (.inl 105) 71
      rw [rI_s, rI_s]
    · show (mx_uI hc (.inl 71) 0 a1).2.1 (.inl 71) 2 = (mx_uI hr (.inl 105) 71 a1).2.1 (.inl 105) 74
      rw [rI_i (by decide), rI_i (by decide)]
      exact y2
    · show (mx_uI hc (.inl 71) 0 a1).2.1 (.inl 71) 7 = (mx_uI hr (.inl 105) 71 a1).2.1 (.inl 105) 79
      rw [rI_i (by decide), rI_i (by decide)]
      exact y3
  · rw [if_neg c, if_neg c]
    exact ⟨rfl, X⟩
theorem bw_ear (z : f173 a 0 3 ≠ 0) : ∃ e : Nat, a.toInt = (e : Int) ∧ e < 4 := by
  rw [w173, k_0, k_3] at z
  by_cases q : 0 ≤ a.toInt ∧ a.toInt ≤ 3
  · exact ⟨a.toInt.toNat, by omega, by omega⟩
  · exact absurd (if_neg q) z
theorem st_ear (X : rb_X hc hr) : (f130 a1 a2 hc).1 = (f256 a1 a2 hr).1 ∧ rb_X (f130 a1 a2 hc).2 (f256 a1 a2 hr).2 := by
  obtain ⟨y1, y2, y3, y4, y5, y6⟩ := id X
  rw [f130_eq, f256_eq, f160_eq, f255_eq, w_ws, w_ws]
  by_cases c : f173 a1 0 3 = 0
  · rw [if_pos c, if_pos c]
    exact ⟨rfl, X⟩
  · rw [if_neg c, if_neg c]
    obtain ⟨e, he, e4⟩ := bw_ear c
    by_cases c2 : f173 a2 (-1) 5 ≠ 0
    · rw [if_pos c2, if_pos c2, i_cl he]
      refine ⟨(y4 e e4).1, y1, y2, y3, fun i hi => ⟨?_, (y4 i hi).2⟩, fun i hi => y5 i hi, fun i hi => y6 i hi⟩
      show (mx_uI hc (.inl 72) e a2).2.1 (.inl 72) i = (mx_uI hr (.inl 149) e a2).2.1 (.inl 149) i
      by_cases ic : i = e
      · subst ic
        rw [rI_s, rI_s]
      · rw [rI_i ic, rI_i ic]
        exact (y4 i hi).1
    · rw [if_neg c2, if_neg c2]
      exact ⟨rfl, X⟩
theorem st_rollX (I : sf_I hr) (X : rb_X hc hr) : (f132 a1 a2 a3 hc).1 = (f260 a1 a2 a3 hr).1 ∧ rb_X (f132 a1 a2 a3 hc).2 (f260 a1 a2 a3 hr).2 := by
  obtain ⟨y1, y2, y3, y4, y5, y6⟩ := id X
  obtain ⟨b1, b2⟩ := sf_rd (lo := 0) (hi := 6) (r := 303) I (.inl 105) 79 rfl (by decide)
  rw [f132_eq, f260_eq, f159_eq, w_ws, w_ws, w_ws, y3]
  by_cases c1 : f173 a1 0 5 = 0
  · rw [if_pos c1, if_pos c1]
    exact ⟨rfl, X⟩
  · rw [if_neg c1, if_neg c1]
    by_cases c2 : f173 a2 (-99) 99 = 0
    · rw [if_pos c2, if_pos c2]
      exact ⟨rfl, X⟩
    · rw [if_neg c2, if_neg c2]
      by_cases c3 : f173 a3 0 99 ≠ 0
      · rw [if_pos c3, if_pos c3]
        by_cases c4 : (hr.2.1 (.inl 105) 79).toInt < 6
        · have l6 : hr.2.1 (.inl 105) 79 < 6 := i_lt rfl k_6 c4
          have hn : (hr.2.1 (.inl 105) 79).toInt = (((hr.2.1 (.inl 105) 79).toInt.toNat : Nat) : Int) := by omega
          generalize hv : (hr.2.1 (.inl 105) 79).toInt.toNat = v at hn
          have e2 : f2 a1 a2 a3 hc = mx_uI (mx_uI (mx_uI (mx_uI hc (.inl 77) v a1) (.inl 78) v a2) (.inl 79) v a3) (.inl 71) 7 (hr.2.1 (.inl 105) 79 + 1) := by
            rw [f2_eq, y3, if_pos l6]
            simp only [rN (k := 71) (k' := 77) (by decide), rN (k := 71) (k' := 78) (by decide), rN (k := 71) (k' := 79) (by decide), y3, i_cl hn]
          rw [if_pos l6, if_pos (show hr.2.1 (.inl 105) 79 ≠ 6 from fun z => by
            rw [z] at c4
            exact absurd c4 (by decide)), e2]
          simp only [x_h, rN (k := 105) (k' := 155) (by decide), rN (k := 105) (k' := 156) (by decide), rN (k := 105) (k' := 157) (by decide), i_cl hn, rI_s]
          refine ⟨trivial, ?_, ?_, ?_, fun e he => y4 e he, fun i hi => y5 i hi, fun i hi => ?_⟩
          · rw [rI_i (show (0 : Nat) ≠ 7 by decide), rI_i (show (71 : Nat) ≠ 79 by decide), rN (show (71 : Nat) ≠ 79 by decide), rN (show (71 : Nat) ≠ 78 by decide), rN (show (71 : Nat) ≠ 77 by decide), rN (show (105 : Nat) ≠ 157 by decide), rN (show (105 : Nat) ≠ 156 by decide), rN (show (105 : Nat) ≠ 155 by decide)]
            exact y1
          · rw [rI_i (show (2 : Nat) ≠ 7 by decide), rI_i (show (74 : Nat) ≠ 79 by decide), rN (show (71 : Nat) ≠ 79 by decide), rN (show (71 : Nat) ≠ 78 by decide), rN (show (71 : Nat) ≠ 77 by decide), rN (show (105 : Nat) ≠ 157 by decide), rN (show (105 : Nat) ≠ 156 by decide), rN (show (105 : Nat) ≠ 155 by decide)]
            exact y2
          · rw [rI_s, rI_s]
          · obtain ⟨x1, x2, x3⟩ := y6 i hi
            obtain ⟨u1, u2⟩ := rb_3 (h := hc) (p1 := 77) (p2 := 78) (p3 := 79) (v := v) (i := i) (x := a1) (y := a2) (w := a3) (by decide) (by decide) (by decide)
            obtain ⟨w1, w2⟩ := rb_3 (h := hr) (p1 := 155) (p2 := 156) (p3 := 157) (v := v) (i := i) (x := a1) (y := a2) (w := a3) (by decide) (by decide) (by decide)
            rw [rN (show (77 : Nat) ≠ 71 by decide), rN (show (78 : Nat) ≠ 71 by decide), rN (show (79 : Nat) ≠ 71 by decide), rN (show (155 : Nat) ≠ 105 by decide), rN (show (156 : Nat) ≠ 105 by decide), rN (show (157 : Nat) ≠ 105 by decide)]
            by_cases ic : i = v
            · obtain ⟨e1, e2, e3⟩ := u1 ic
              obtain ⟨e4, e5, e6⟩ := w1 ic
              rw [e1, e2, e3, e4, e5, e6]
              exact ⟨rfl, rfl, rfl⟩
            · obtain ⟨e1, e2, e3⟩ := u2 ic
              obtain ⟨e4, e5, e6⟩ := w2 ic
              rw [e1, e2, e3, e4, e5, e6]
              exact ⟨x1, x2, x3⟩
        · rw [if_neg (i_nlt rfl k_6 (by omega)), if_neg (show ¬ hr.2.1 (.inl 105) 79 ≠ 6 from fun z => z (i_eq rfl k_6 (by omega)))]
          exact ⟨rfl, X⟩
      · rw [if_neg c3, if_neg c3]
        exact ⟨rfl, X⟩
/-- frames -/
def rb_Mc : Nat := 11065812261109875357684255043565314669513600862714331136
def rb_Mr : Nat := 2268692134959522898158107460677519531346819908102577157999450551135159952836292294482149202578351699226930446336
theorem rb_c (hm : m &&& rb_Mc = 0) (e : sf_El m h h') (X : rb_X h hr) : rb_X h' hr := by
  obtain ⟨y1, y2, y3, y4, y5, y6⟩ := X
  refine ⟨(e 71 0 (rt_bit (r := 164) hm (by decide))).trans y1, (e 71 2 (rt_bit (r := 166) hm (by decide))).trans y2, (e 71 7 (rt_bit (r := 171) hm (by decide))).trans y3, fun i hi => ⟨(e 72 i (rt_bit (r := 175) hm (by decide))).trans (y4 i hi).1, (e 73 i (rt_bit (r := 176) hm (by decide))).trans (y4 i hi).2⟩, fun i hi => (e 74 i (rt_bit (r := 177) hm (by decide))).trans (y5 i hi), fun i hi => ⟨(e 77 i (rt_bit (r := 180) hm (by decide))).trans (y6 i hi).1, (e 78 i (rt_bit (r := 181) hm (by decide))).trans (y6 i hi).2.1, (e 79 i (rt_bit (r := 182) hm (by decide))).trans (y6 i hi).2.2⟩⟩
theorem rb_r (hm : m &&& rb_Mr = 0) (e : sf_El m h h') (X : rb_X hc h) : rb_X hc h' := by
  obtain ⟨y1, y2, y3, y4, y5, y6⟩ := X
  refine ⟨y1.trans (e 105 71 (rt_bit (r := 295) hm (by decide))).symm, y2.trans (e 105 74 (rt_bit (r := 298) hm (by decide))).symm, y3.trans (e 105 79 (rt_bit (r := 303) hm (by decide))).symm, fun i hi => ⟨(y4 i hi).1.trans (e 149 i (rt_bit (r := 361) hm (by decide))).symm, (y4 i hi).2.trans (e 150 i (rt_bit (r := 362) hm (by decide))).symm⟩, fun i hi => (y5 i hi).trans (e 154 i (rt_bit (r := 366) hm (by decide))).symm, fun i hi => ⟨(y6 i hi).1.trans (e 155 i (rt_bit (r := 367) hm (by decide))).symm, (y6 i hi).2.1.trans (e 156 i (rt_bit (r := 368) hm (by decide))).symm, (y6 i hi).2.2.trans (e 157 i (rt_bit (r := 369) hm (by decide))).symm⟩⟩
theorem rb_f (hm : m &&& rb_Mc = 0) (hn : m &&& rb_Mr = 0) (e : sf_El m h h') (X : rb_X h h) : rb_X h' h' := rb_c hm e (rb_r hn e X)
set_option maxRecDepth 1000000 in
theorem rb_00 : (sp_hN.2.1 (.inl 71) 0 = sp_hN.2.1 (.inl 105) 71 ∧ sp_hN.2.1 (.inl 71) 2 = sp_hN.2.1 (.inl 105) 74 ∧ sp_hN.2.1 (.inl 71) 7 = sp_hN.2.1 (.inl 105) 79) ∧ (∀ e, e < 4 → sp_hN.2.1 (.inl 72) e = sp_hN.2.1 (.inl 149) e ∧ sp_hN.2.1 (.inl 73) e = sp_hN.2.1 (.inl 150) e) ∧ ∀ i, i < 6 → sp_hN.2.1 (.inl 77) i = sp_hN.2.1 (.inl 155) i ∧ sp_hN.2.1 (.inl 78) i = sp_hN.2.1 (.inl 156) i ∧ sp_hN.2.1 (.inl 79) i = sp_hN.2.1 (.inl 157) i := by decide +kernel
set_option maxRecDepth 1000000 in
theorem rb_01 : ∀ i, i < 800 → sp_hN.2.1 (.inl 74) i = sp_hN.2.1 (.inl 154) i := by decide +kernel
theorem rb_0 : rb_X sp_hN sp_hN := ⟨rb_00.1.1, rb_00.1.2.1, rb_00.1.2.2, rb_00.2.1, rb_01, rb_00.2.2⟩
/-- heard -/
theorem bw_7 (X : rb_X hc hr) (he : a.toInt = (e : Int)) (e4 : e < 4) (z : 1 ≤ rD hr (.inl 105) 74) : f7 a hc = if hr.2.1 (.inl 150) e < 0 then 0 else 1 := by
  rw [f7_eq, X.2.1, if_neg (i_nle rfl k_0 (by unfold rD at z; omega)), i_cl he, (X.2.2.2.1 e e4).2]
theorem aw_heard (I : sf_I hr) (X : rb_X hc hr) : f134 a1 a2 hc = f262 a1 a2 hr := by
  have b := sf_rd (lo := 0) (hi := 200) (r := 298) I (.inl 105) 74 rfl (by decide)
  rw [f134_eq, f262_eq, f160_eq, f255_eq, w_ws, w_ws, X.2.1]
  by_cases c : f173 a1 0 3 = 0
  · rw [if_pos c, if_pos c]
  · rw [if_neg c, if_neg c]
    obtain ⟨e, he, e4⟩ := bw_ear c
    by_cases c2 : f173 a2 1 (hr.2.1 (.inl 105) 74) = 0
    · rw [if_pos c2, if_pos c2]
    · rw [if_neg c2, if_neg c2]
      have q : 1 ≤ a2.toInt ∧ a2.toInt ≤ (hr.2.1 (.inl 105) 74).toInt := by
        rw [w173, k_1] at c2
        by_cases q : 1 ≤ a2.toInt ∧ a2.toInt ≤ (hr.2.1 (.inl 105) 74).toInt
        · exact q
        · exact absurd (if_neg q) c2
      have b2 := b.2
      have ix : (200 * a1 + a2 - 1).toInt = ((200 * e + a2.toInt.toNat - 1 : Nat) : Int) := by
        have m := i_mul k_200 he (by omega) (by omega)
        rw [i_sub (i_add m rfl (by omega) (by omega)) k_1 (by omega) (by omega)]
        omega
      rw [bw_7 X he e4 (by unfold rD; omega), f8_eq, i_cl he, i_cl ix, X.2.2.2.2.1 _ (by omega)]
      by_cases z : hr.2.1 (.inl 150) e < 0
      · rw [if_pos z, if_pos z, if_neg (fun w => w rfl)]
      · rw [if_neg z, if_neg z, if_pos n10]
/-- loud -/
theorem bw_9 (X : rb_X hc hr) (he : a1.toInt = (e : Int)) (e4 : e < 4) (hs : rD hr (.inl 105) 74 = s) (s200 : s ≤ 200) : ∀ (j c : Nat) (x a3 a4 : Int32), c + j = s → a3.toInt = (c : Int) + 1 → a4.toInt = (c : Int) → g9_4 a1 x a3 hc = g263_43 a1 x a4 hr
  | 0, c, x, a3, a4, e, h3, h4 => by
    rw [g9_4_eq, X.2.1, if_pos (i_lt hs h3 (by omega)), g263_43_eq, if_pos (i_le hs h4 (by omega))]
  | j + 1, c, x, a3, a4, ee, h3, h4 => by
    have m := i_mul k_200 he (by omega) (by omega)
    have ix : (200 * a1 + a3 - 1).toInt = ((200 * e + c : Nat) : Int) := by
      rw [i_sub (i_add m h3 (by omega) (by omega)) k_1 (by omega) (by omega)]
      omega
    have ix' : (200 * a1 + a4).toInt = ((200 * e + c : Nat) : Int) := by
      rw [i_add m h4 (by omega) (by omega)]
      omega
    rw [g9_4_eq, X.2.1, if_neg (i_nlt hs h3 (by omega)), g263_43_eq, if_neg (i_nle hs h4 (by omega)), f8_eq, i_cl ix, i_cl ix', X.2.2.2.2.1 _ (by omega)]
    simp only [x_val]
    have em : f175 x (f176 (hr.2.1 (.inl 154) (200 * e + c))) = if x < bw_a (hr.2.1 (.inl 154) (200 * e + c)) then bw_a (hr.2.1 (.inl 154) (200 * e + c)) else x := i_eq bw_g bw_x (by rw [bw_a6])
    rw [em]
    exact bw_9 X he e4 hs s200 j (c + 1) _ (a3 + 1) (a4 + 1) (by omega) ((i_add h3 k_1 (by omega) (by omega)).trans (by omega)) ((i_add h4 k_1 (by omega) (by omega)).trans (by omega))
theorem bw_10 (X : rb_X hc hr) (he : a1.toInt = (e : Int)) (e4 : e < 4) (hs : rD hr (.inl 105) 74 = s) (s200 : s ≤ 200) : ∀ (c : Nat) (x a4 : Int32), c ≤ s → a4.toInt = (c : Int) → x = f174 (a4 + 1) (hr.2.1 (.inl 105) 74) → g10_11 a1 a2 x a4 hc = g263_86 a1 a2 a4 hr
  | 0, x, a4, l, h4, ex => by
    rw [g10_11_eq, if_pos (i_le h4 k_0 (by decide)), g263_86_eq, if_pos (i_le h4 k_0 (by decide)), ex]
  | c + 1, x, a4, l, h4, ex => by
    have m := i_mul k_200 he (by omega) (by omega)
    have ix : (200 * a1 + a4 - 1).toInt = ((200 * e + c : Nat) : Int) := by
      rw [i_sub (i_add m h4 (by omega) (by omega)) k_1 (by omega) (by omega)]
      omega
    have h5 := (i_add h4 k_m1 (by omega) (by omega)).trans (show ((c + 1 : Nat) : Int) + -1 = (c : Int) by omega)
    rw [g10_11_eq, if_neg (i_nle h4 k_0 (by omega)), g263_86_eq, if_neg (i_nle h4 k_0 (by omega)), f8_eq, i_cl ix, X.2.2.2.2.1 _ (by omega), bw_a6]
    simp only [x_val]
    by_cases z : a2 < bw_a (hr.2.1 (.inl 154) (200 * e + c))
    · rw [if_pos z]
      exact (if_pos z).trans ex
    · rw [if_neg z]
      refine (if_neg z).trans (bw_10 X he e4 hs s200 c a4 (a4 + -1) (by omega) h5 ?_)
      have h6 := (i_add h5 k_1 (by omega) (by omega))
      have hs' : (hr.2.1 (.inl 105) 74).toInt = (s : Int) := hs
      rw [f174_eq, show a4 + -1 + 1 = a4 from i_eq h6 h4 (by omega)]
      by_cases q : hr.2.1 (.inl 105) 74 ≤ a4
      · rw [if_pos q]
        have := Int32.le_iff_toInt_le.mp q
        exact i_eq h4 hs' (by omega)
      · rw [if_neg q]
theorem aw_loud (I : sf_I hr) (X : rb_X hc hr) : f135 a1 a2 hc = f263 a1 a2 hr := by
  obtain ⟨b1, b2⟩ := sf_rd (lo := 0) (hi := 200) (r := 298) I (.inl 105) 74 rfl (by decide)
  rw [f135_eq, f263_eq, f160_eq, f255_eq, w_ws]
  by_cases c : f173 a1 0 3 = 0
  · rw [if_pos c, if_pos c]
  · rw [if_neg c, if_neg c]
    obtain ⟨e, he, e4⟩ := bw_ear c
    by_cases c2 : -1 ≤ a2
    · rw [if_pos c2, if_pos c2]
      by_cases c3 : hr.2.1 (.inl 105) 74 = 0
      · have e7 : f7 a1 hc = 0 := by
          rw [f7_eq, X.2.1, c3, if_pos (by decide)]
        rw [if_pos c3, e7, if_neg (fun w => w rfl)]
      · rw [if_neg c3, i_cl he]
        have p1 : 1 ≤ (hr.2.1 (.inl 105) 74).toInt := by
          have : (hr.2.1 (.inl 105) 74).toInt ≠ 0 := fun w => c3 (i_eq w k_0 rfl)
          omega
        have hs : (hr.2.1 (.inl 105) 74).toInt = (((hr.2.1 (.inl 105) 74).toInt.toNat : Nat) : Int) := by omega
        generalize hv : (hr.2.1 (.inl 105) 74).toInt.toNat = v at hs
        rw [bw_7 X he e4 p1]
        by_cases z : hr.2.1 (.inl 150) e < 0
        · rw [if_pos z, if_neg (fun w => w rfl), if_neg (fun w => Int32.not_le.mpr z w)]
        · rw [if_neg z, if_pos n10, if_pos (Int32.not_lt.mp z)]
          by_cases c4 : a2 ≠ -1
          · rw [if_pos c4, if_pos c4, f10_eq, X.2.1]
            refine bw_10 X he e4 hs (by omega) v _ _ (Nat.le_refl _) hs ?_
            rw [f174_eq, if_pos (i_le hs (i_add hs k_1 (by omega) (by omega)) (by omega))]
          · rw [if_neg c4, if_neg c4, f9_eq]
            exact bw_9 X he e4 hs (by omega) v 0 0 1 0 (by omega) rfl rfl
    · rw [if_neg c2, if_neg c2]
end BX
