/-! ===== a blow, step by step, on both sides ===== -/
section BW
variable {h g k hc hr : mx_H} {S N C t c u s n F : Nat} {a1 a2 a3 a4 a5 a6 b2 b3 x y w p m : Int32}
/-- what the steps leave alone of the class's cells; of the reference's -/
def bc_F (h g : mx_H) : Prop := (∀ q i, g.2.1 (.inr q) i = h.2.1 (.inr q) i) ∧ ∀ q i, ¬ (74 ≤ q ∧ q ≤ 76) → g.2.1 (.inl q) i = h.2.1 (.inl q) i
def br_F (h g : mx_H) : Prop := ∀ q i, ¬ (151 ≤ q ∧ q ≤ 154) → ¬ (q = 105 ∧ i = 74) → g.2.1 (.inl q) i = h.2.1 (.inl q) i
theorem bc_F.fu {p i : Nat} (h1 : 74 ≤ p) (h2 : p ≤ 76) (F : bc_F h g) : bc_F h (mx_uI g (.inl p) i x) := ⟨fun q i' => (rI_a (fun e => by cases e)).trans (F.1 q i'), fun q i' e => (rI_a (fun z => e (by
  have := Sum.inl.inj z
  omega))).trans (F.2 q i' e)⟩
theorem br_F.fu {p i : Nat} (h1 : 151 ≤ p) (h2 : p ≤ 154) (F : br_F h g) : br_F h (mx_uI g (.inl p) i x) := fun q i' e e2 => (rI_a (fun z => e (by
  have := Sum.inl.inj z
  omega))).trans (F q i' e e2)
theorem br_F.fs (F : br_F h g) : br_F h (mx_uI g (.inl 105) 74 x) := fun q i' e e2 => (if_neg (fun z => e2 ⟨Sum.inl.inj z.1, z.2⟩)).trans (F q i' e e2)
/-- U behind the pull and the damping -/
def bw_d (d U p : Int32) : Int32 := U - p - (U - p) * d / 1000
theorem bw_m (m2 : 1 ≤ m.toInt) : (if 1 < m then m else 1) = m := by
  by_cases z : 1 < m.toInt
  · exact if_pos (i_lt k_1 rfl z)
  · rw [if_neg (i_nlt k_1 rfl (by omega))]
    exact i_eq k_1 rfl (by omega)
theorem bw_hc (N : nt_N hc hr 0 C) (K : bc_F hc g) : rD g (.inr (0, 30)) 0 = C := by
  unfold rD
  rw [K.1]
  exact N.2.1
theorem bw_hr (N : nt_N hc hr 0 C) (R : br_F hr k) : rD k (.inl 105) 35 = C := by
  unfold rD
  rw [R 105 35 (by decide) (by decide)]
  exact N.2.2.1
/-- the pull at corner u -/
theorem B6 (N : nt_N hc hr 0 C) (K : bc_F hc g) (R : br_F hr k) (D : hc.2.1 (.inl 71) 0 = hr.2.1 (.inl 105) 71) (X : ∀ i, i < C → g.2.1 (.inl 75) i = k.2.1 (.inl 151) i) (hu : a1.toInt = (u : Int)) (lt : u < C) : ∀ (j c : Nat) (s a4 : Int32), c + j = C → a4.toInt = (c : Int) → ∃ p, g6_17 0 a1 s a4 g = mx_uI (mx_uI g (.inl 76) u (g.2.1 (.inl 76) u - p)) (.inl 76) u (bw_d (hr.2.1 (.inl 105) 71) (g.2.1 (.inl 76) u) p) ∧ g258_26 a1 s a4 k = g258_2 (a1 + 1) (mx_uI k (.inl 153) u p)
  | 0, c, s, a4, e, ha => by
    have hC := bw_hc N K
    have hC' := bw_hr N R
    obtain ⟨C6, n1, n2, n3, n4⟩ := N
    obtain ⟨m1, ⟨m2, m3⟩, m4, m5⟩ := n3 u lt
    refine ⟨s / hr.2.1 (.inl 128) u / 8, ?_, ?_⟩
    · rw [g6_17_eq, if_pos (i_le hC ha (by omega)), i_cl hu, K.1, m1, bw_m m2, rI_s, rN (show (71 : Nat) ≠ 76 by decide), K.2 71 0 (by decide), D]
      rfl
    · rw [g258_26_eq, if_pos (i_le hC' ha (by omega)), i_cl hu, R 128 u (by decide) (nq (by decide))]
  | j + 1, c, s, a4, e, ha => by
    have hC := bw_hc N K
    have hC' := bw_hr N R
    obtain ⟨C6, n1, n2, n3, n4⟩ := id N
    have w6e := w6 hu ha (show u ≤ 12 by omega) (show c < 6 by omega)
    rw [g6_17_eq, if_neg (i_nle hC ha (by omega)), g258_26_eq, if_neg (i_nle hC' ha (by omega)), f27_eq, i_cl w6e, i_cl hu, i_cl ha, K.1, n4 u c lt (by omega), R 131 _ (by decide) (nq (by decide)), X u lt, X c (by omega)]
    exact B6 N K R D X hu lt j (c + 1) _ (a4 + 1) (by omega) ((i_add ha k_1 (by omega) (by omega)).trans (by omega))
/-- all pulls -/
theorem B74 (N : nt_N hc hr 0 C) (D : hc.2.1 (.inl 71) 0 = hr.2.1 (.inl 105) 71) : ∀ (j c : Nat) (a6 : Int32) {g k : mx_H}, c + j = C → a6.toInt = (c : Int) → bc_F hc g → br_F hr k → (∀ i, i < C → g.2.1 (.inl 75) i = k.2.1 (.inl 151) i) → ∃ g' k', ∃ p : Nat → Int32, g5_74 0 a2 a3 a4 a5 a6 g = g5_109 0 a2 a3 a4 a5 0 g' ∧ g258_2 a6 k = g258_95 0 0 k' ∧ bc_F hc g' ∧ br_F hr k' ∧ (∀ q i, q ≠ 76 → g'.2.1 (.inl q) i = g.2.1 (.inl q) i) ∧ (∀ q i, q ≠ 153 → k'.2.1 (.inl q) i = k.2.1 (.inl q) i) ∧ (∀ i, i < c → g'.2.1 (.inl 76) i = g.2.1 (.inl 76) i ∧ k'.2.1 (.inl 153) i = k.2.1 (.inl 153) i) ∧ ∀ i, c ≤ i → i < C → g'.2.1 (.inl 76) i = (if hr.2.1 (.inl 130) i = 0 then bw_d (hr.2.1 (.inl 105) 71) (g.2.1 (.inl 76) i) (p i) else g.2.1 (.inl 76) i) ∧ k'.2.1 (.inl 153) i = p i
  | 0, c, a6, g, k, e, ha, K, R, X => by
    refine ⟨g, k, fun _ => 0, ?_, ?_, K, R, fun _ _ _ => rfl, fun _ _ _ => rfl, fun _ _ => ⟨rfl, rfl⟩, fun i h1 h2 => by omega⟩
    · rw [g5_74_eq, if_pos (i_le (bw_hc N K) ha (by omega))]
    · rw [g258_2_eq, if_pos (i_le (bw_hr N R) ha (by omega))]
  | j + 1, c, a6, g, k, e, ha, K, R, X => by
    have lt : c < C := by omega
    have ha' := (i_add ha k_1 (by have := N.1; omega) (by have := N.1; omega)).trans (show (c : Int) + 1 = ((c + 1 : Nat) : Int) by omega)
    obtain ⟨m1, ⟨m2, m3⟩, m4, m5⟩ := N.2.2.2.1 c lt
    obtain ⟨p0, e1, e2⟩ := B6 N K R D X ha lt C 0 (hr.2.1 (.inl 129) c * k.2.1 (.inl 151) c) 0 (by omega) rfl
    by_cases z : hr.2.1 (.inl 130) c = 0
    · obtain ⟨g', k', p, q1, q2, q3, q4, q5, q6, q7, q8⟩ := B74 N D j (c + 1) (a6 + 1) (g := mx_uI (mx_uI g (.inl 76) c (g.2.1 (.inl 76) c - p0)) (.inl 76) c (bw_d (hr.2.1 (.inl 105) 71) (g.2.1 (.inl 76) c) p0)) (k := mx_uI k (.inl 153) c p0) (by omega) ha' ((K.fu (by decide) (by decide)).fu (by decide) (by decide)) (R.fu (by decide) (by decide)) (fun i hi => by
        rw [rN (by decide), rN (by decide), rN (by decide)]
        exact X i hi)
      refine ⟨g', k', fun i => if i = c then p0 else p i, ?_, ?_, q3, q4, fun q i hq => ?_, fun q i hq => ?_, fun i hi => ?_, fun i h1 h2 => ?_⟩
      · rw [g5_74_eq, if_neg (i_nle (bw_hc N K) ha (by omega)), i_cl ha, K.1, m5, if_neg (fun w => w z), f6_eq, i_cl ha, K.1, m4, X c lt, e1]
        exact q1
      · rw [g258_2_eq, if_neg (i_nle (bw_hr N R) ha (by omega)), i_cl ha, R 129 _ (by decide) (nq (by decide)), e2]
        exact q2
      · rw [q5 q i hq, rI_a (fun w => hq (Sum.inl.inj w)), rI_a (fun w => hq (Sum.inl.inj w))]
      · rw [q6 q i hq, rI_a (fun w => hq (Sum.inl.inj w))]
      · obtain ⟨r1, r2⟩ := q7 i (by omega)
        rw [r1, r2, rI_i (by omega), rI_i (by omega), rI_i (by omega)]
        exact ⟨rfl, rfl⟩
      · by_cases ic : i = c
        · subst ic
          obtain ⟨r1, r2⟩ := q7 i (by omega)
          dsimp only
          rw [r1, r2, rI_s, rI_s, if_pos z, if_pos rfl]
          exact ⟨rfl, rfl⟩
        · obtain ⟨r1, r2⟩ := q8 i (by omega) h2
          dsimp only
          rw [r1, r2, rI_i ic, rI_i ic, if_neg ic]
          exact ⟨rfl, rfl⟩
    · obtain ⟨g', k', p, q1, q2, q3, q4, q5, q6, q7, q8⟩ := B74 N D j (c + 1) (a6 + 1) (g := g) (k := mx_uI k (.inl 153) c p0) (by omega) ha' K (R.fu (by decide) (by decide)) (fun i hi => by
        rw [rN (by decide)]
        exact X i hi)
      refine ⟨g', k', fun i => if i = c then p0 else p i, ?_, ?_, q3, q4, fun q i hq => ?_, fun q i hq => ?_, fun i hi => ?_, fun i h1 h2 => ?_⟩
      · rw [g5_74_eq, if_neg (i_nle (bw_hc N K) ha (by omega)), i_cl ha, K.1, m5, if_pos z]
        exact q1
      · rw [g258_2_eq, if_neg (i_nle (bw_hr N R) ha (by omega)), i_cl ha, R 129 _ (by decide) (nq (by decide)), e2]
        exact q2
      · exact q5 q i hq
      · rw [q6 q i hq, rI_a (fun w => hq (Sum.inl.inj w))]
      · obtain ⟨r1, r2⟩ := q7 i (by omega)
        rw [r1, r2, rI_i (by omega)]
        exact ⟨rfl, rfl⟩
      · by_cases ic : i = c
        · subst ic
          obtain ⟨r1, r2⟩ := q7 i (by omega)
          dsimp only
          rw [r1, r2, rI_s, if_neg z, if_pos rfl]
          exact ⟨rfl, rfl⟩
        · obtain ⟨r1, r2⟩ := q8 i (by omega) h2
          dsimp only
          rw [r1, r2, if_neg ic]
          exact ⟨rfl, rfl⟩
/-- sizes and the greatest -/
def bw_a (x : Int32) : Int32 := if 0 ≤ x then x else 0 - x
theorem bw_a6 : f176 x = bw_a x := by
  rw [f176_eq]
  unfold bw_a
  by_cases z : 0 ≤ x
  · rw [if_pos z, if_pos z]
  · rw [if_neg z, if_neg z, Int32.zero_sub]
theorem bw_x : (if x < y then y else x).toInt = max x.toInt y.toInt := by
  by_cases z : x < y
  · rw [if_pos z]
    have := Int32.lt_iff_toInt_lt.mp z
    omega
  · rw [if_neg z]
    have := Int32.le_iff_toInt_le.mp (Int32.not_lt.mp z)
    omega
theorem bw_g : (f175 x y).toInt = max x.toInt y.toInt := by
  rw [f175_eq]
  by_cases z : x ≤ y
  · rw [if_pos z]
    have := Int32.le_iff_toInt_le.mp z
    omega
  · rw [if_neg z]
    have := Int32.lt_iff_toInt_lt.mp (Int32.not_le.mp z)
    omega
/-- corner c moves, on the reference's side -/
def br_s (k : mx_H) (c : Nat) (d : Int32) : mx_H := mx_uI (mx_uI (mx_uI k (.inl 152) c (k.2.1 (.inl 152) c - k.2.1 (.inl 153) c)) (.inl 152) c (bw_d d (k.2.1 (.inl 152) c) (k.2.1 (.inl 153) c))) (.inl 151) c (k.2.1 (.inl 151) c + bw_d d (k.2.1 (.inl 152) c) (k.2.1 (.inl 153) c) / 8)
theorem R258s (hC : rD k (.inl 105) 35 = C) (ha : a6.toInt = (c : Int)) (lt : c < C) (z : k.2.1 (.inl 130) c = 0) : g258_95 a1 a6 k = g258_95 (f175 a1 (f176 (k.2.1 (.inl 151) c + bw_d (k.2.1 (.inl 105) 71) (k.2.1 (.inl 152) c) (k.2.1 (.inl 153) c) / 8))) (a6 + 1) (br_s k c (k.2.1 (.inl 105) 71)) := by
  rw [g258_95_eq, if_neg (i_nle hC ha (by omega)), i_cl ha, if_pos z]
  simp only [rI_s, rN (k := 105) (k' := 152) (by decide), rN (k := 151) (k' := 152) (by decide)]
  rfl
theorem B109 (N : nt_N hc hr 0 C) {m0 : Int} (l0 : 0 ≤ m0) : ∀ (j c : Nat) (a6 a4 a1 : Int32) {g k : mx_H}, c + j = C → a6.toInt = (c : Int) → bc_F hc g → br_F hr k → (∀ i, i < C → g.2.1 (.inl 75) i = k.2.1 (.inl 151) i ∧ (¬ hr.2.1 (.inl 130) i = 0 → g.2.1 (.inl 75) i = 0 ∧ g.2.1 (.inl 76) i = 0)) → (∀ i, i < c → g.2.1 (.inl 76) i = k.2.1 (.inl 152) i) → (∀ i, c ≤ i → i < C → g.2.1 (.inl 76) i = if hr.2.1 (.inl 130) i = 0 then bw_d (hr.2.1 (.inl 105) 71) (k.2.1 (.inl 152) i) (k.2.1 (.inl 153) i) else k.2.1 (.inl 152) i) → a4.toInt = max m0 a1.toInt → ∃ g' k' mc mr, g5_109 0 a2 a3 a4 a5 a6 g = g5_164 0 a2 a3 mc a5 0 g' ∧ g258_95 a1 a6 k = g258_194 mr 0 k' ∧ bc_F hc g' ∧ br_F hr k' ∧ (∀ q i, q ≠ 75 → g'.2.1 (.inl q) i = g.2.1 (.inl q) i) ∧ (∀ q i, q ≠ 151 → q ≠ 152 → k'.2.1 (.inl q) i = k.2.1 (.inl q) i) ∧ (∀ i, i < C → g'.2.1 (.inl 75) i = k'.2.1 (.inl 151) i ∧ g'.2.1 (.inl 76) i = k'.2.1 (.inl 152) i ∧ (¬ hr.2.1 (.inl 130) i = 0 → g'.2.1 (.inl 75) i = 0 ∧ g'.2.1 (.inl 76) i = 0)) ∧ mc.toInt = max m0 mr.toInt
  | 0, c, a6, a4, a1, g, k, e, ha, K, R, X, U, V, M => by
    refine ⟨g, k, a4, a1, ?_, ?_, K, R, fun _ _ _ => rfl, fun _ _ _ _ => rfl, fun i hi => ⟨(X i hi).1, U i (by omega), (X i hi).2⟩, M⟩
    · rw [g5_109_eq, if_pos (i_le (bw_hc N K) ha (by omega))]
    · rw [g258_95_eq, if_pos (i_le (bw_hr N R) ha (by omega))]
  | j + 1, c, a6, a4, a1, g, k, e, ha, K, R, X, U, V, M => by
    have lt : c < C := by omega
    have ha' := (i_add ha k_1 (by have := N.1; omega) (by have := N.1; omega)).trans (show (c : Int) + 1 = ((c + 1 : Nat) : Int) by omega)
    obtain ⟨x1, x2⟩ := X c lt
    have v1 := V c (Nat.le_refl _) lt
    have ec : ∀ z, g.2.1 (.inl 75) c + g.2.1 (.inl 76) c / 8 = z → g5_109 0 a2 a3 a4 a5 a6 g = g5_109 0 a2 a3 (if a4 < bw_a z then bw_a z else a4) a5 (a6 + 1) (mx_uI g (.inl 75) c z) := fun z hz => by
      rw [g5_109_eq, if_neg (i_nle (bw_hc N K) ha (by omega)), i_cl ha, hz, rI_s]
      rfl
    by_cases z : hr.2.1 (.inl 130) c = 0
    · rw [if_pos z] at v1
      have er := R258s (a1 := a1) (bw_hr N R) ha lt (show k.2.1 (.inl 130) c = 0 by rw [R 130 c (by decide) (nq (by decide))]; exact z)
      rw [R 105 71 (by decide) (by decide), ← v1, ← x1] at er
      obtain ⟨g', k', mc, mr, q1, q2, q3, q4, q5, q6, q7, q8⟩ := B109 N l0 j (c + 1) (a6 + 1) (if a4 < bw_a (g.2.1 (.inl 75) c + g.2.1 (.inl 76) c / 8) then bw_a (g.2.1 (.inl 75) c + g.2.1 (.inl 76) c / 8) else a4) (f175 a1 (f176 (g.2.1 (.inl 75) c + g.2.1 (.inl 76) c / 8))) (g := mx_uI g (.inl 75) c (g.2.1 (.inl 75) c + g.2.1 (.inl 76) c / 8)) (k := br_s k c (hr.2.1 (.inl 105) 71)) (by omega) ha' (K.fu (by decide) (by decide)) (((R.fu (by decide) (by decide)).fu (by decide) (by decide)).fu (by decide) (by decide)) (by
        intro i hi
        unfold br_s
        rw [rN (show (76 : Nat) ≠ 75 by decide)]
        by_cases ic : i = c
        · subst ic
          rw [rI_s, rI_s, ← v1, ← x1]
          exact ⟨rfl, fun w => absurd z w⟩
        · rw [rI_i ic, rI_i ic, rN (by decide), rN (by decide)]
          exact X i hi) (by
        intro i hi
        unfold br_s
        rw [rN (show (76 : Nat) ≠ 75 by decide), rN (show (152 : Nat) ≠ 151 by decide)]
        by_cases ic : i = c
        · subst ic
          rw [rI_s]
          exact v1
        · rw [rI_i ic, rI_i ic]
          exact U i (by omega)) (by
        intro i h1 h2
        unfold br_s
        rw [rN (show (76 : Nat) ≠ 75 by decide), rN (show (152 : Nat) ≠ 151 by decide), rN (show (153 : Nat) ≠ 151 by decide), rN (show (153 : Nat) ≠ 152 by decide), rN (show (153 : Nat) ≠ 152 by decide), rI_i (by omega), rI_i (by omega)]
        exact V i (by omega) h2) (by
        rw [bw_x, bw_g, bw_a6, M]
        omega)
      refine ⟨g', k', mc, mr, (ec _ rfl).trans q1, er.trans q2, q3, q4, fun q i hq => (q5 q i hq).trans (rI_a (fun w => hq (Sum.inl.inj w))), fun q i h1 h2 => ?_, q7, q8⟩
      rw [q6 q i h1 h2]
      unfold br_s
      rw [rI_a (fun w => h1 (Sum.inl.inj w)), rI_a (fun w => h2 (Sum.inl.inj w)), rI_a (fun w => h2 (Sum.inl.inj w))]
    · obtain ⟨x3, x4⟩ := x2 z
      have k0 : bw_a (0 : Int32) = 0 := by decide
      have er : g258_95 a1 a6 k = g258_95 a1 (a6 + 1) k := by
        rw [g258_95_eq, if_neg (i_nle (bw_hr N R) ha (by omega)), i_cl ha, if_neg (by rw [R 130 c (by decide) (nq (by decide))]; exact z)]
      obtain ⟨g', k', mc, mr, q1, q2, q3, q4, q5, q6, q7, q8⟩ := B109 N l0 j (c + 1) (a6 + 1) (if a4 < bw_a 0 then bw_a 0 else a4) a1 (g := mx_uI g (.inl 75) c 0) (k := k) (by omega) ha' (K.fu (by decide) (by decide)) R (by
        intro i hi
        rw [rN (show (76 : Nat) ≠ 75 by decide)]
        by_cases ic : i = c
        · subst ic
          rw [rI_s, ← x1, x3]
          exact ⟨rfl, fun _ => ⟨rfl, x4⟩⟩
        · rw [rI_i ic]
          exact X i hi) (by
        intro i hi
        rw [rN (show (76 : Nat) ≠ 75 by decide)]
        by_cases ic : i = c
        · subst ic
          rw [if_neg z] at v1
          exact v1
        · exact U i (by omega)) (by
        intro i h1 h2
        rw [rN (show (76 : Nat) ≠ 75 by decide)]
        exact V i (by omega) h2) (by
        rw [bw_x, k0, M, k_0]
        omega)
      exact ⟨g', k', mc, mr, (ec 0 (by rw [x3, x4]; decide)).trans q1, er.trans q2, q3, q4, fun q i hq => (q5 q i hq).trans (rI_a (fun w => hq (Sum.inl.inj w))), q6, q7, q8⟩
/-- the ears write -/
theorem B164 (N : nt_N hc hr 0 C) (E : ∀ e, e < 4 → hc.2.1 (.inl 73) e = hr.2.1 (.inl 150) e ∧ (0 ≤ rD hr (.inl 150) e → rD hr (.inl 150) e < C)) {st : Nat} (h5 : a5.toInt = (st : Int)) (s200 : st < 200) : ∀ (j e : Nat) (a6 : Int32) {g k : mx_H}, e + j = 4 → a6.toInt = (e : Int) → bc_F hc g → br_F hr k → rD k (.inl 105) 74 = st → (∀ i, i < C → g.2.1 (.inl 75) i = k.2.1 (.inl 151) i) → (∀ i, i < 800 → g.2.1 (.inl 74) i = k.2.1 (.inl 154) i) → ∃ g' k', g5_164 0 a2 a3 a4 a5 a6 g = g5_11 0 a2 a3 a4 (a5 + 1) g' ∧ g258_194 a1 a6 k = (a1, mx_uI k' (.inl 105) 74 (k'.2.1 (.inl 105) 74 + 1)) ∧ bc_F hc g' ∧ br_F hr k' ∧ (∀ q i, q ≠ 74 → g'.2.1 (.inl q) i = g.2.1 (.inl q) i) ∧ (∀ q i, q ≠ 154 → k'.2.1 (.inl q) i = k.2.1 (.inl q) i) ∧ ∀ i, i < 800 → g'.2.1 (.inl 74) i = k'.2.1 (.inl 154) i
  | 0, e, a6, g, k, ee, ha, K, R, T, X, W => by
    refine ⟨g, k, ?_, ?_, K, R, fun _ _ _ => rfl, fun _ _ _ => rfl, W⟩
    · rw [g5_164_eq, if_pos (i_le k_4 ha (by omega))]
    · rw [g258_194_eq, if_pos (i_le k_4 ha (by omega))]
  | j + 1, e, a6, g, k, ee, ha, K, R, T, X, W => by
    have ha' := (i_add ha k_1 (by omega) (by omega)).trans (show (e : Int) + 1 = ((e + 1 : Nat) : Int) by omega)
    obtain ⟨E1, E2⟩ := E e (by omega)
    have r1 : g.2.1 (.inl 73) e = hr.2.1 (.inl 150) e := (K.2 73 e (by decide)).trans E1
    have r2 : k.2.1 (.inl 150) e = hr.2.1 (.inl 150) e := R 150 e (by decide) (nq (by decide))
    by_cases z : hr.2.1 (.inl 150) e < 0
    · obtain ⟨g', k', q1, q2, q⟩ := B164 N E h5 s200 j (e + 1) (a6 + 1) (g := g) (k := k) (by omega) ha' K R T X W
      refine ⟨g', k', ?_, ?_, q⟩
      · rw [g5_164_eq, if_neg (i_nle k_4 ha (by omega)), i_cl ha, r1, if_pos z]
        exact q1
      · rw [g258_194_eq, if_neg (i_nle k_4 ha (by omega)), i_cl ha, r2, if_pos z]
        exact q2
    · have z0 : 0 ≤ rD hr (.inl 150) e := Int32.le_iff_toInt_le.mp (Int32.not_lt.mp z)
      have z1 := E2 z0
      have hx : (hr.2.1 (.inl 150) e).toInt = (((hr.2.1 (.inl 150) e).toInt.toNat : Nat) : Int) := by
        unfold rD at z0
        omega
      generalize hv : (hr.2.1 (.inl 150) e).toInt.toNat = v at hx
      have vC : v < C := by
        unfold rD at z1
        omega
      have ix : (200 * a6 + a5).toInt = ((200 * e + st : Nat) : Int) := by
        have m := i_mul k_200 ha (by omega) (by omega)
        rw [i_add m h5 (by omega) (by omega)]
        omega
      have ix' : (200 * a6 + k.2.1 (.inl 105) 74).toInt = ((200 * e + st : Nat) : Int) := by
        have m := i_mul k_200 ha (by omega) (by omega)
        rw [i_add m T (by omega) (by omega)]
        omega
      obtain ⟨g', k', q1, q2, q3, q4, q5, q6, q7⟩ := B164 N E h5 s200 j (e + 1) (a6 + 1) (g := mx_uI g (.inl 74) (200 * e + st) (g.2.1 (.inl 75) v)) (k := mx_uI k (.inl 154) (200 * e + st) (k.2.1 (.inl 151) v)) (by omega) ha' (K.fu (by decide) (by decide)) (R.fu (by decide) (by decide)) (by
        unfold rD
        rw [rN (by decide)]
        exact T) (fun i hi => by
        rw [rN (by decide), rN (by decide)]
        exact X i hi) (fun i hi => by
        by_cases ic : i = 200 * e + st
        · rw [ic, rI_s, rI_s]
          exact X v vC
        · rw [rI_i ic, rI_i ic]
          exact W i hi)
      refine ⟨g', k', ?_, ?_, q3, q4, fun q i hq => (q5 q i hq).trans (rI_a (fun w => hq (Sum.inl.inj w))), fun q i hq => (q6 q i hq).trans (rI_a (fun w => hq (Sum.inl.inj w))), q7⟩
      · rw [g5_164_eq, if_neg (i_nle k_4 ha (by omega)), i_cl ha, r1, if_neg z, i_cl ix, i_cl hx]
        exact q1
      · rw [g258_194_eq, if_neg (i_nle k_4 ha (by omega)), i_cl ha, r2, if_neg z, i_cl ix', i_cl hx]
        exact q2
/-- both sides alike behind st steps -/
def bw_A (hc hr g k : mx_H) (C st : Nat) : Prop := bc_F hc g ∧ br_F hr k ∧ (∀ i, i < C → g.2.1 (.inl 75) i = k.2.1 (.inl 151) i ∧ g.2.1 (.inl 76) i = k.2.1 (.inl 152) i ∧ (¬ hr.2.1 (.inl 130) i = 0 → g.2.1 (.inl 75) i = 0 ∧ g.2.1 (.inl 76) i = 0)) ∧ (∀ i, i < 800 → g.2.1 (.inl 74) i = k.2.1 (.inl 154) i) ∧ rD k (.inl 105) 74 = st
def bw_B (hc hr : mx_H) (C : Nat) : Prop := nt_N hc hr 0 C ∧ hc.2.1 (.inl 71) 0 = hr.2.1 (.inl 105) 71 ∧ ∀ e, e < 4 → hc.2.1 (.inl 73) e = hr.2.1 (.inl 150) e ∧ (0 ≤ rD hr (.inl 150) e → rD hr (.inl 150) e < C)
theorem BS {st : Nat} (B : bw_B hc hr C) (h5 : a5.toInt = (st : Int)) (s200 : st < 200) (l0 : 0 ≤ a4.toInt) (A : bw_A hc hr g k C st) : ∃ g' k' mr, g5_74 0 a2 a3 a4 a5 0 g = g5_11 0 a2 a3 (f175 a4 mr) (a5 + 1) g' ∧ f258 k = (mr, k') ∧ bw_A hc hr g' k' C (st + 1) := by
  obtain ⟨N, D, E⟩ := B
  obtain ⟨K, R, X, W, T⟩ := A
  obtain ⟨g1, k1, p, q1, q2, q3, q4, q5, q6, q7, q8⟩ := B74 (a2 := a2) (a3 := a3) (a4 := a4) (a5 := a5) N D C 0 0 (g := g) (k := k) (by omega) rfl K R (fun i hi => (X i hi).1)
  obtain ⟨g2, k2, mc, mr, r1, r2, r3, r4, r5, r6, r7, r8⟩ := B109 (a2 := a2) (a3 := a3) (a5 := a5) N l0 C 0 0 a4 0 (g := g1) (k := k1) (by omega) rfl q3 q4 (fun i hi => by
    obtain ⟨x1, x2, x3⟩ := X i hi
    rw [q5 75 i (by decide), q6 151 i (by decide), (q8 i (Nat.zero_le _) hi).1]
    exact ⟨x1, fun z => ⟨(x3 z).1, by rw [if_neg z]; exact (x3 z).2⟩⟩) (fun i hi => absurd hi (Nat.not_lt_zero _)) (fun i _ hi => by
    rw [q6 152 i (by decide), (q8 i (Nat.zero_le _) hi).1, (q8 i (Nat.zero_le _) hi).2, (X i hi).2.1]) (by rw [k_0]; omega)
  obtain ⟨g3, k3, s1, s2, s3, s4, s5, s6, s7⟩ := B164 (a1 := mr) (a2 := a2) (a3 := a3) (a4 := mc) N E h5 s200 4 0 0 (g := g2) (k := k2) (by decide) rfl r3 r4 (by
    unfold rD
    rw [r6 105 74 (by decide) (by decide), q6 105 74 (by decide)]
    exact T) (fun i hi => (r7 i hi).1) (fun i hi => by
    rw [r5 74 i (by decide), q5 74 i (by decide), r6 154 i (by decide) (by decide), q6 154 i (by decide)]
    exact W i hi)
  have T3 : rD k3 (.inl 105) 74 = st := by
    unfold rD
    rw [s6 105 74 (by decide), r6 105 74 (by decide) (by decide), q6 105 74 (by decide)]
    exact T
  have em : mc = f175 a4 mr := i_eq rfl bw_g r8
  refine ⟨g3, mx_uI k3 (.inl 105) 74 (k3.2.1 (.inl 105) 74 + 1), mr, ?_, ?_, s3, s4.fs, fun i hi => ?_, fun i hi => ?_, ?_⟩
  · rw [q1, r1, s1, em]
  · rw [f258_eq, q2, r2, s2]
  · obtain ⟨x1, x2, x3⟩ := r7 i hi
    rw [rN (by decide), rN (by decide), s5 75 i (by decide), s5 76 i (by decide), s6 151 i (by decide), s6 152 i (by decide)]
    exact ⟨x1, x2, x3⟩
  · rw [rN (by decide)]
    exact s7 i hi
  · unfold rD
    rw [rI_s]
    exact (i_add T3 k_1 (by omega) (by omega)).trans (by omega)
/-- one blow: all steps -/
theorem B5b {t : Nat} (B : bw_B hc hr C) (h2 : a2.toInt = (t : Int)) (t200 : t ≤ 200) : ∀ (j st : Nat) (a4 a5 : Int32) {g k : mx_H}, st + j = t → a5.toInt = (st : Int) → 0 ≤ a4.toInt → bw_A hc hr g k C st → ∃ v g' k', g5_11 0 a2 0 a4 a5 g = (v, g') ∧ g259_80 a2 a4 a5 k = (v, k') ∧ bw_A hc hr g' k' C t
  | 0, st, a4, a5, g, k, e, h5, l0, A => by
    refine ⟨a4, g, k, ?_, ?_, (show st = t by omega) ▸ A⟩
    · rw [g5_11_eq, if_pos (i_le h2 h5 (by omega))]
    · rw [g259_80_eq, if_pos (i_le h2 h5 (by omega))]
  | j + 1, st, a4, a5, g, k, e, h5, l0, A => by
    obtain ⟨g1, k1, mr, q1, q2, q3⟩ := BS (a2 := a2) (a3 := 0) (a4 := a4) B h5 (by omega) l0 A
    obtain ⟨v, g', k', r1, r2, r3⟩ := B5b B h2 t200 j (st + 1) (f175 a4 mr) (a5 + 1) (g := g1) (k := k1) (by omega) ((i_add h5 k_1 (by omega) (by omega)).trans (by omega)) (by rw [bw_g]; omega) q3
    refine ⟨v, g', k', ?_, ?_, r3⟩
    · rw [g5_11_eq, if_neg (i_nle h2 h5 (by omega)), if_neg (i_nle k_200 h5 (by omega)), g5_28_eq, if_pos (i_le k_0 k_0 (by decide)), q1]
      exact r1
    · rw [g259_80_eq, if_neg (i_nle h2 h5 (by omega)), q2]
      exact r2
/-- what was told of further blows, at a step -/
def bw_L (hc hr : mx_H) : Prop := ∀ i, i < 6 → hc.2.1 (.inl 77) i = hr.2.1 (.inl 155) i ∧ hc.2.1 (.inl 78) i = hr.2.1 (.inl 156) i ∧ hc.2.1 (.inl 79) i = hr.2.1 (.inl 157) i ∧ 0 ≤ rD hr (.inl 155) i
theorem B28 {st n : Nat} (B : bw_B hc hr C) (L : bw_L hc hr) (h3 : a3.toInt = (n : Int)) (n6 : n ≤ 6) (h79 : rD hr (.inl 105) 79 = n) : ∀ (j c : Nat) (a6 : Int32) {g k : mx_H}, c + j = n → a6.toInt = (c : Int) → bw_A hc hr g k C st → ∃ g' k', g5_28 0 a2 a3 a4 a5 a6 g = g5_74 0 a2 a3 a4 a5 0 g' ∧ g261_50 b2 b3 a5 a6 k = x_let (f258 k') (fun x3 h2 => g261_41 b2 (f175 b3 x3) (a5 + 1) h2) ∧ bw_A hc hr g' k' C st
  | 0, c, a6, g, k, e, ha, A => by
    refine ⟨g, k, ?_, ?_, A⟩
    · rw [g5_28_eq, if_pos (i_le h3 ha (by omega))]
    · rw [g261_50_eq, if_pos (show k.2.1 (.inl 105) 79 ≤ a6 by rw [A.2.1 105 79 (by decide) (by decide)]; exact i_le h79 ha (by omega))]
  | j + 1, c, a6, g, k, e, ha, A => by
    have ha' := (i_add ha k_1 (by omega) (by omega)).trans (show (c : Int) + 1 = ((c + 1 : Nat) : Int) by omega)
    obtain ⟨N, D, E⟩ := id B
    obtain ⟨K, R, X, W, T⟩ := id A
    obtain ⟨l1, l2, l3, l4⟩ := L c (by omega)
    have nr : ¬ k.2.1 (.inl 105) 79 ≤ a6 := by
      rw [R 105 79 (by decide) (by decide)]
      exact i_nle h79 ha (by omega)
    have c1 : g.2.1 (.inl 77) c = hr.2.1 (.inl 155) c := (K.2 77 c (by decide)).trans l1
    have c2 : g.2.1 (.inl 78) c = hr.2.1 (.inl 156) c := (K.2 78 c (by decide)).trans l2
    have c3 : g.2.1 (.inl 79) c = hr.2.1 (.inl 157) c := (K.2 79 c (by decide)).trans l3
    have d1 : k.2.1 (.inl 155) c = hr.2.1 (.inl 155) c := R 155 c (by decide) (nq (by decide))
    have d2 : k.2.1 (.inl 156) c = hr.2.1 (.inl 156) c := R 156 c (by decide) (nq (by decide))
    have d3 : k.2.1 (.inl 157) c = hr.2.1 (.inl 157) c := R 157 c (by decide) (nq (by decide))
    have ec := g5_28_eq 0 a2 a3 a4 a5 a6 g
    have er := g261_50_eq b2 b3 a5 a6 k
    rw [if_neg (i_nle h3 ha (by omega)), i_cl ha, c1, c2, c3] at ec
    rw [if_neg nr, i_cl ha, d1, d2, d3] at er
    by_cases z : hr.2.1 (.inl 157) c = a5
    · rw [if_neg (fun w => w z), f4_eq, K.1] at ec
      rw [if_neg (fun w => w z)] at er
      by_cases z2 : (C : Int) ≤ rD hr (.inl 155) c
      · rw [if_pos (show hc.2.1 (.inr (0, 30)) 0 ≤ hr.2.1 (.inl 155) c from i_le N.2.1 rfl z2)] at ec
        rw [if_pos (show k.2.1 (.inl 105) 35 ≤ hr.2.1 (.inl 155) c from i_le (bw_hr N R) rfl z2)] at er
        rw [ec, er]
        exact B28 B L h3 n6 h79 j (c + 1) (a6 + 1) (by omega) ha' A
      · have z2' : (hr.2.1 (.inl 155) c).toInt < (C : Int) := Int.not_le.mp z2
        rw [if_neg (show ¬ hc.2.1 (.inr (0, 30)) 0 ≤ hr.2.1 (.inl 155) c from i_nle N.2.1 rfl z2')] at ec
        rw [if_neg (show ¬ k.2.1 (.inl 105) 35 ≤ hr.2.1 (.inl 155) c from i_nle (bw_hr N R) rfl z2')] at er
        have hx : (hr.2.1 (.inl 155) c).toInt = (((hr.2.1 (.inl 155) c).toInt.toNat : Nat) : Int) := by
          unfold rD at l4
          omega
        generalize hv : (hr.2.1 (.inl 155) c).toInt.toNat = v at hx
        have vC : v < C := by
          unfold rD at z2
          omega
        obtain ⟨m1, ⟨m2, m3⟩, m4, m5⟩ := N.2.2.2.1 v vC
        rw [i_cl hx, K.1, m5] at ec
        rw [i_cl hx, R 130 v (by decide) (nq (by decide))] at er
        by_cases z3 : hr.2.1 (.inl 130) v = 0
        · rw [if_neg (fun w => w z3)] at ec er
          rw [ec, er]
          refine B28 B L h3 n6 h79 j (c + 1) (a6 + 1) (g := mx_uI g (.inl 76) v (g.2.1 (.inl 76) v + 64 * hr.2.1 (.inl 156) c)) (k := mx_uI k (.inl 152) v (k.2.1 (.inl 152) v + hr.2.1 (.inl 156) c * 64)) (by omega) ha' ⟨K.fu (by decide) (by decide), R.fu (by decide) (by decide), fun i hi => ?_, fun i hi => ?_, ?_⟩
          · rw [rN (show (75 : Nat) ≠ 76 by decide), rN (show (151 : Nat) ≠ 152 by decide)]
            obtain ⟨x1, x2, x3⟩ := X i hi
            by_cases ic : i = v
            · subst ic
              rw [rI_s, rI_s, x2, Int32.mul_comm]
              exact ⟨x1, rfl, fun w => absurd z3 w⟩
            · rw [rI_i ic, rI_i ic]
              exact ⟨x1, x2, x3⟩
          · rw [rN (by decide), rN (by decide)]
            exact W i hi
          · unfold rD
            rw [rN (by decide)]
            exact T
        · rw [if_pos z3] at ec er
          rw [ec, er]
          exact B28 B L h3 n6 h79 j (c + 1) (a6 + 1) (by omega) ha' A
    · rw [if_pos z] at ec er
      rw [ec, er]
      exact B28 B L h3 n6 h79 j (c + 1) (a6 + 1) (by omega) ha' A
/-- all that was told: all steps -/
theorem B5r {t n : Nat} (B : bw_B hc hr C) (L : bw_L hc hr) (h3 : a3.toInt = (n : Int)) (n6 : n ≤ 6) (h79 : rD hr (.inl 105) 79 = n) (h2 : a2.toInt = (t : Int)) (t200 : t ≤ 200) : ∀ (j st : Nat) (a4 a5 : Int32) {g k : mx_H}, st + j = t → a5.toInt = (st : Int) → 0 ≤ a4.toInt → bw_A hc hr g k C st → ∃ v g' k', g5_11 0 a2 a3 a4 a5 g = (v, g') ∧ g261_41 a2 a4 a5 k = (v, mx_uI k' (.inl 105) 79 0) ∧ bw_A hc hr g' k' C t
  | 0, st, a4, a5, g, k, e, h5, l0, A => by
    refine ⟨a4, g, k, ?_, ?_, (show st = t by omega) ▸ A⟩
    · rw [g5_11_eq, if_pos (i_le h2 h5 (by omega))]
    · rw [g261_41_eq, if_pos (i_le h2 h5 (by omega))]
  | j + 1, st, a4, a5, g, k, e, h5, l0, A => by
    obtain ⟨g0, k0, p1, p2, p3⟩ := B28 (a2 := a2) (a4 := a4) (a5 := a5) (b2 := a2) (b3 := a4) B L h3 n6 h79 n 0 0 (g := g) (k := k) (by omega) rfl A
    obtain ⟨g1, k1, mr, q1, q2, q3⟩ := BS (a2 := a2) (a3 := a3) (a4 := a4) B h5 (by omega) l0 p3
    obtain ⟨v, g', k', r1, r2, r3⟩ := B5r B L h3 n6 h79 h2 t200 j (st + 1) (f175 a4 mr) (a5 + 1) (g := g1) (k := k1) (by omega) ((i_add h5 k_1 (by omega) (by omega)).trans (by omega)) (by rw [bw_g]; omega) q3
    refine ⟨v, g', k', ?_, ?_, r3⟩
    · rw [g5_11_eq, if_neg (i_nle h2 h5 (by omega)), if_neg (i_nle k_200 h5 (by omega)), p1, q1]
      exact r1
    · rw [g261_41_eq, if_neg (i_nle h2 h5 (by omega)), p2, q2]
      exact r2
end BW
