/-! ===== turns, alike on both sides ===== -/
section TU
variable {h g g0 k hc hr : mx_H} {S N s o C c u w t f : Nat} {r : Nat → Nat} {a a1 a2 a3 a4 a5 b3 b4 b5 x y : Int32} {cc : Nat → Nat → Int32 → mx_H → mx_H} {dd : Int32 → Int32 → Int32 → Int32 → mx_H → mx_H}
def tr_F (h g : mx_H) : Prop := ∀ q i, q ≠ 139 → ¬ (q = 105 ∧ 46 ≤ i ∧ i ≤ 50) → g.2.1 (.inl q) i = h.2.1 (.inl q) i
theorem tr_F.fu {i : Nat} (F : tr_F h g) : tr_F h (mx_uI g (.inl 139) i x) := fun q i' e e2 => (rI_a (fun z => e (Sum.inl.inj z))).trans (F q i' e e2)
theorem tr_F.fs {i : Nat} (l1 : 46 ≤ i) (l2 : i ≤ 50) (F : tr_F h g) : tr_F h (mx_uI g (.inl 105) i x) := fun q i' e e2 => (if_neg (fun z => e2 ⟨Sum.inl.inj z.1, by omega⟩)).trans (F q i' e e2)
def tc_F (h g : mx_H) : Prop := ∀ q i, g.2.1 (.inr q) i = h.2.1 (.inr q) i
/-- both shapes, both nets -/
def tu_W (g0 hr : mx_H) (s o C : Nat) : Prop := C ≤ 6 ∧ s ≤ 12 ∧ o ≤ 12 ∧ rD g0 (.inr (s, 0)) 0 = C ∧ rD g0 (.inr (o, 0)) 0 = C ∧ rD hr (.inl 106) s = C ∧
  (∀ c, c < C → g0.2.1 (.inr (s, 1)) c = hr.2.1 (.inl 107) (6 * s + c) ∧ g0.2.1 (.inr (s, 2)) c = hr.2.1 (.inl 108) (6 * s + c) ∧ g0.2.1 (.inr (s, 3)) c = hr.2.1 (.inl 109) (6 * s + c) ∧ g0.2.1 (.inr (s, 4)) c = hr.2.1 (.inl 110) (6 * s + c)) ∧
  (∀ c, c < C → g0.2.1 (.inr (o, 1)) c = hr.2.1 (.inl 107) (6 * o + c) ∧ g0.2.1 (.inr (o, 2)) c = hr.2.1 (.inl 108) (6 * o + c) ∧ g0.2.1 (.inr (o, 3)) c = hr.2.1 (.inl 109) (6 * o + c) ∧ g0.2.1 (.inr (o, 4)) c = hr.2.1 (.inl 110) (6 * o + c)) ∧
  (∀ i j, i < C → j < C → g0.2.1 (.inr (2, 34)) (6 * i + j) = rn_l hr s i j) ∧ ∀ i j, i < C → j < C → g0.2.1 (.inr (3, 34)) (6 * i + j) = rn_l hr o i j
theorem T228 (R : tr_F hr k) (h1 : a1.toInt = (s : Int)) (h2 : x.toInt = (u : Int)) (h3 : y.toInt = (c : Int)) (s12 : s ≤ 12) (u6 : u < 6) (c6 : c < 6) : f228 a1 x y k = rn_l hr s u c := by
  rw [f228_eq, f180_eq, i_cl (w179 h1 h2 h3 s12 u6 c6), R 113 _ (by decide) (nq (by decide)), R 111 _ (by decide) (nq (by decide)), R 112 _ (by decide) (nq (by decide))]
  unfold rn_l
  by_cases p : 0 < rD hr (.inl 113) (36 * s + 6 * u + c)
  · rw [if_pos p, if_neg (i_nle rfl k_0 p), if_neg n10]
  · rw [if_neg p, if_pos (i_le rfl k_0 (Int.not_lt.mp p)), if_pos rfl]
theorem T98 (W : tu_W g0 hr s o C) (K : tc_F g0 g) (R : tr_F hr k) (h1 : a1.toInt = (s : Int)) (h2 : a2.toInt = (o : Int)) (h3 : a3.toInt = (c : Int)) (h4 : a4.toInt = (t : Int)) (lc : c < C) (lt : t < C) : f98 s a3 o a4 g = f227 a1 a3 a2 a4 k := by
  obtain ⟨W1, W2, W3, W4, W5, W6, W7, W8, W9, W10⟩ := W
  obtain ⟨x1, x2, x3, x4⟩ := W7 c lc
  obtain ⟨y1, y2, y3, y4⟩ := W8 t lt
  rw [f98_eq, f227_eq, i_cl h3, i_cl h4, i_cl (w6 h1 h3 W2 (by omega)), i_cl (w6 h2 h4 W3 (by omega)), K, K, K, K, K, K, K, K, x1, x2, x3, x4, y1, y2, y3, y4, R 107 _ (by decide) (nq (by decide)), R 107 _ (by decide) (nq (by decide)), R 108 _ (by decide) (nq (by decide)), R 108 _ (by decide) (nq (by decide)), R 109 _ (by decide) (nq (by decide)), R 109 _ (by decide) (nq (by decide)), R 110 _ (by decide) (nq (by decide)), R 110 _ (by decide) (nq (by decide))]
theorem T99 (W : tu_W g0 hr s o C) (K : tc_F g0 g) (hr' : ∀ j, j < c → rD g (.inl 37) j = (r j : Nat) ∧ r j < C) (h1 : a1.toInt = (c : Int)) (h2 : a2.toInt = (t : Int)) (lc : c < C) (lt : t < C) : ∀ (n j : Nat) (a : Int32), j + n = c → a.toInt = (j : Int) → ((∀ i, j ≤ i → i < c → r i ≠ t ∧ rn_l hr s i c = rn_l hr o (r i) t) ∧ g99_2 a1 a2 a g = 1) ∨ (¬ (∀ i, j ≤ i → i < c → r i ≠ t ∧ rn_l hr s i c = rn_l hr o (r i) t) ∧ g99_2 a1 a2 a g = 0)
  | 0, j, a, e, ha => by
    refine Or.inl ⟨fun i h1 h2 => by omega, ?_⟩
    rw [g99_2_eq, if_pos (i_le h1 ha (by omega))]
  | n + 1, j, a, e, ha => by
    have C6 := W.1
    obtain ⟨q1, q2⟩ := hr' j (by omega)
    have q1' : (g.2.1 (.inl 37) j).toInt = ((r j : Nat) : Int) := q1
    have ha' := (i_add ha k_1 (by omega) (by omega)).trans (show (j : Int) + 1 = ((j + 1 : Nat) : Int) by omega)
    rw [g99_2_eq, if_neg (i_nle h1 ha (by omega)), i_cl ha]
    by_cases z : r j = t
    · refine Or.inr ⟨fun w => (w j (Nat.le_refl _) (by omega)).1 z, ?_⟩
      rw [if_pos (i_eq q1' h2 (by omega))]
    · rw [if_neg (i_ne q1' h2 (by omega)), f27_eq, f27_eq, i_cl (w6 ha h1 (show j ≤ 12 by omega) (by omega)), i_cl (w6 q1' h2 (show r j ≤ 12 by omega) (by omega)), K, K, W.2.2.2.2.2.2.2.2.1 j c (by omega) lc, W.2.2.2.2.2.2.2.2.2 (r j) t q2 lt]
      by_cases z2 : rn_l hr s j c = rn_l hr o (r j) t
      · rw [if_pos z2]
        rcases T99 W K hr' h1 h2 lc lt n (j + 1) (a + 1) (by omega) ha' with ⟨p1, p2⟩ | ⟨p1, p2⟩
        · refine Or.inl ⟨fun i l1 l2 => ?_, p2⟩
          by_cases ij : i = j
          · subst ij
            exact ⟨z, z2⟩
          · exact p1 i (by omega) l2
        · exact Or.inr ⟨fun w => p1 (fun i l1 l2 => w i (by omega) l2), p2⟩
      · rw [if_neg z2]
        exact Or.inr ⟨fun w => z2 (w j (Nat.le_refl _) (by omega)).2, rfl⟩
theorem T138z {b7 : Int32} : g229_138 dd a1 a2 b3 b4 b5 0 b7 k = g229_95 dd a1 a2 b3 b4 (b5 + 1) k := by
  rw [g229_138_eq]
  by_cases z : b3 ≤ b7
  · rw [if_pos z, if_neg (fun w => w rfl)]
  · rw [if_neg z, if_pos rfl, if_neg (fun w => w rfl)]
theorem T138 (W : tu_W g0 hr s o C) (R : tr_F hr k) (hr' : ∀ j, j < c → rD k (.inl 139) j = (r j : Nat) ∧ r j < C) (h1 : a1.toInt = (s : Int)) (h2 : a2.toInt = (o : Int)) (h3 : b3.toInt = (c : Int)) (h5 : b5.toInt = (t : Int)) (lc : c < C) (lt : t < C) : ∀ (n j : Nat) (a : Int32), j + n = c → a.toInt = (j : Int) → ((∀ i, j ≤ i → i < c → rn_l hr s i c = rn_l hr o (r i) t) ∧ ∀ dd, g229_138 dd a1 a2 b3 b4 b5 1 a k = g229_95 dd a1 a2 b3 b4 (b5 + 1) (dd a1 a2 (b3 + 1) (b4 ||| (1 <<< (b5 &&& 31))) (mx_uI k (.inl 139) c b5))) ∨ (¬ (∀ i, j ≤ i → i < c → rn_l hr s i c = rn_l hr o (r i) t) ∧ ∀ dd, g229_138 dd a1 a2 b3 b4 b5 1 a k = g229_95 dd a1 a2 b3 b4 (b5 + 1) k)
  | 0, j, a, e, ha => by
    refine Or.inl ⟨fun i h1 h2 => by omega, fun dd => ?_⟩
    rw [g229_138_eq, if_pos (i_le h3 ha (by omega)), if_pos n10, i_cl h3]
    rfl
  | n + 1, j, a, e, ha => by
    have C6 := W.1
    obtain ⟨q1, q2⟩ := hr' j (by omega)
    have q1' : (k.2.1 (.inl 139) j).toInt = ((r j : Nat) : Int) := q1
    have ha' := (i_add ha k_1 (by omega) (by omega)).trans (show (j : Int) + 1 = ((j + 1 : Nat) : Int) by omega)
    have st : ∀ dd, g229_138 dd a1 a2 b3 b4 b5 1 a k = if rn_l hr s j c ≠ rn_l hr o (r j) t then g229_138 dd a1 a2 b3 b4 b5 0 (a + 1) k else g229_138 dd a1 a2 b3 b4 b5 1 (a + 1) k := fun dd => by
      rw [g229_138_eq, if_neg (i_nle h3 ha (by omega)), if_neg n10, i_cl ha, T228 R h1 ha h3 W.2.1 (by omega) (by omega), T228 R h2 q1' h5 W.2.2.1 (by omega) (by omega)]
    by_cases z2 : rn_l hr s j c = rn_l hr o (r j) t
    · rcases T138 W R hr' h1 h2 h3 h5 lc lt n (j + 1) (a + 1) (by omega) ha' with ⟨p1, p2⟩ | ⟨p1, p2⟩
      · refine Or.inl ⟨fun i l1 l2 => ?_, fun dd => by rw [st, if_neg (fun w => w z2)]; exact p2 dd⟩
        by_cases ij : i = j
        · subst ij
          exact z2
        · exact p1 i (by omega) l2
      · exact Or.inr ⟨fun w => p1 (fun i l1 l2 => w i (by omega) l2), fun dd => by rw [st, if_neg (fun w => w z2)]; exact p2 dd⟩
    · exact Or.inr ⟨fun w => z2 (w j (Nat.le_refl _) (by omega)), fun dd => by rw [st, if_pos z2, T138z]⟩
/-- what both have counted -/
def tu_S (g k : mx_H) (w f : Nat) : Prop := rD g (.inl 35) 0 = f ∧ rD k (.inl 105) 46 = f ∧ g.2.1 (.inl 36) w = k.2.1 (.inl 105) 47 ∧ rD k (.inl 105) 48 = w ∧ k.2.1 (.inl 105) 49 = (if f = 0 then 0 else 1) ∧ (f ≠ 0 → g.2.1 (.inl 35) 1 = k.2.1 (.inl 105) 50)
/-- a turn is found: the class's note -/
theorem T100 (h1 : a1.toInt = (C : Int)) (C6 : C ≤ 6) (hw : w < C) : ∀ (n j : Nat) (a2 a : Int32) {g : mx_H}, j + n = C → a.toInt = (j : Int) → ∃ g' : mx_H, ∃ d : Int32, g100_4 a1 a2 a g = (if g'.2.1 (.inl 35) 0 ≠ 0 then mx_uI g' (.inl 35) 0 (g'.2.1 (.inl 35) 0 + 1) else mx_uI (mx_uI g' (.inl 35) 1 d) (.inl 35) 0 ((mx_uI g' (.inl 35) 1 d).2.1 (.inl 35) 0 + 1)) ∧ tc_F g g' ∧ (∀ q i, q ≠ 36 → g'.2.1 (.inl q) i = g.2.1 (.inl q) i) ∧ (w < j → g'.2.1 (.inl 36) w = g.2.1 (.inl 36) w) ∧ (j ≤ w → g'.2.1 (.inl 36) w = g.2.1 (.inl 36) w ||| (1 <<< (g.2.1 (.inl 37) w &&& 31))) ∧ ∀ (b3 b5 : Int32) (k : mx_H), b3.toInt = (C : Int) → b5.toInt = (j : Int) → k.2.1 (.inl 105) 50 = a2 → (∀ i, i < C → k.2.1 (.inl 139) i = g.2.1 (.inl 37) i) → ∃ k' : mx_H, (∀ dd, g229_55 dd b3 b5 k = mx_uI k' (.inl 105) 49 1) ∧ k'.2.1 (.inl 105) 50 = d ∧ (∀ i, i ≠ 50 → k'.2.1 (.inl 105) i = k.2.1 (.inl 105) i) ∧ ∀ q i, q ≠ 105 → k'.2.1 (.inl q) i = k.2.1 (.inl q) i
  | 0, j, a2, a, g, e, ha => by
    refine ⟨g, a2, ?_, fun _ _ => rfl, fun _ _ _ => rfl, fun _ => rfl, fun l => by omega, fun b3 b5 k h3 h5 hk hx => ⟨k, fun dd => ?_, hk, fun _ _ => rfl, fun _ _ _ => rfl⟩⟩
    · rw [g100_4_eq, if_pos (i_le h1 ha (by omega))]
    · rw [g229_55_eq, if_pos (i_le h3 h5 (by omega))]
  | n + 1, j, a2, a, g, e, ha => by
    have ha' := (i_add ha k_1 (by omega) (by omega)).trans (show (j : Int) + 1 = ((j + 1 : Nat) : Int) by omega)
    obtain ⟨g', d, q1, q2, q3, q4, q5, q6⟩ := T100 h1 C6 hw n (j + 1) (10 * a2 + g.2.1 (.inl 37) j) (a + 1) (g := mx_uI g (.inl 36) j (g.2.1 (.inl 36) j ||| (1 <<< (g.2.1 (.inl 37) j &&& 31)))) (by omega) ha'
    refine ⟨g', d, ?_, fun q i => (q2 q i).trans (rI_a (fun e => by cases e)), fun q i hq => (q3 q i hq).trans (rI_a (fun w => hq (Sum.inl.inj w))), fun l => (q4 (by omega)).trans (rI_i (by omega)), fun l => ?_, fun b3 b5 k h3 h5 hk hx => ?_⟩
    · rw [g100_4_eq, if_neg (i_nle h1 ha (by omega)), i_cl ha]
      exact q1
    · by_cases wj : w = j
      · subst wj
        rw [q4 (by omega), rI_s]
      · rw [q5 (by omega), rI_i wj, rN (by decide)]
    · have h5' := (i_add h5 k_1 (by omega) (by omega)).trans (show (j : Int) + 1 = ((j + 1 : Nat) : Int) by omega)
      obtain ⟨k', p1, p2, p3, p4⟩ := q6 b3 (b5 + 1) (mx_uI k (.inl 105) 50 (10 * a2 + g.2.1 (.inl 37) j)) h3 h5' rI_s (fun i hi => by
        rw [rN (by decide), rN (by decide)]
        exact hx i hi)
      refine ⟨k', fun dd => ?_, p2, fun i hi => (p3 i hi).trans (rI_i hi), fun q i hq => (p4 q i hq).trans (rI_a (fun w => hq (Sum.inl.inj w)))⟩
      rw [g229_55_eq, if_neg (i_nle h3 h5 (by omega)), i_cl h5, hk, hx j (by omega)]
      exact p1 dd
/-- behind a stretch of the search: what stays, what is counted -/
def tu_Z (hr g0 g k g' k' : mx_H) (c w f b : Nat) : Prop := tc_F g0 g' ∧ tr_F hr k' ∧ (∀ j, j < c → g'.2.1 (.inl 37) j = g.2.1 (.inl 37) j ∧ k'.2.1 (.inl 139) j = k.2.1 (.inl 139) j) ∧ ∃ f', f ≤ f' ∧ f' ≤ f + b ∧ tu_S g' k' w f'
theorem Tleaf (K : tc_F g0 g) (R : tr_F hr k) (h3 : a3.toInt = (C : Int)) (hb : b3.toInt = (C : Int)) (C6 : C ≤ 6) (hw : w < C) (Z : tu_S g k w f) (fb : f < 50000) (O : ∀ j, j < C → k.2.1 (.inl 139) j = g.2.1 (.inl 37) j) (hC : rD g (.inr (s, 0)) 0 = C) (hC' : rD k (.inl 106) s = C) (h1 : a1.toInt = (s : Int)) : (∀ cc cc', fb97 cc s o a3 g = fb97 cc' s o a3 g) ∧ (∀ dd dd', fb229 dd a1 a2 b3 b4 k = fb229 dd' a1 a2 b3 b4 k) ∧ tu_Z hr g0 g k (fb97 cc s o a3 g) (fb229 dd a1 a2 b3 b4 k) C w f 1 := by
  obtain ⟨Z1, Z2, Z3, Z4, Z5, Z6⟩ := Z
  obtain ⟨g', d, q1, q2, q3, q4, q5, q6⟩ := T100 (w := w) h3 C6 hw C 0 0 0 (g := g) (by omega) rfl
  have eg : ∀ cc, fb97 cc s o a3 g = f100 a3 g := fun cc => by
    rw [fb97_eq, if_pos (i_le hC h3 (by omega))]
    rfl
  have e0 : g'.2.1 (.inl 35) 0 = g.2.1 (.inl 35) 0 := q3 35 0 (by decide)
  have e1 : g'.2.1 (.inl 35) 1 = g.2.1 (.inl 35) 1 := q3 35 1 (by decide)
  have Z1' : (g.2.1 (.inl 35) 0).toInt = (f : Int) := Z1
  have Z2' : (k.2.1 (.inl 105) 46).toInt = (f : Int) := Z2
  have ek : ∀ dd, fb229 dd a1 a2 b3 b4 k = if (if f = 0 then (0 : Int32) else 1) ≠ 0 then mx_uI (mx_uI k (.inl 105) 46 (k.2.1 (.inl 105) 46 + 1)) (.inl 105) 47 (k.2.1 (.inl 105) 47 ||| (1 <<< (k.2.1 (.inl 139) w &&& 31))) else g229_55 dd b3 0 (mx_uI (mx_uI (mx_uI k (.inl 105) 46 (k.2.1 (.inl 105) 46 + 1)) (.inl 105) 47 (k.2.1 (.inl 105) 47 ||| (1 <<< (k.2.1 (.inl 139) w &&& 31)))) (.inl 105) 50 0) := fun dd => by
    rw [fb229_eq, if_neg (show ¬ b3 ≠ k.2.1 (.inl 106) (Int32.toNatClampNeg a1) from fun w => w (by
      rw [i_cl h1]
      exact i_eq hb hC' rfl))]
    simp only [rI_i (show (48 : Nat) ≠ 46 by decide), rI_i (show (47 : Nat) ≠ 46 by decide), rI_i (show (49 : Nat) ≠ 47 by decide), rI_i (show (49 : Nat) ≠ 46 by decide), rN (show (139 : Nat) ≠ 105 by decide), i_cl Z4, Z5]
  refine ⟨fun cc cc' => (eg cc).trans (eg cc').symm, ?_⟩
  rw [eg, f100_eq, q1, e0]
  by_cases z : f = 0
  · subst z
    rw [if_neg (show ¬ g.2.1 (.inl 35) 0 ≠ 0 from fun w => w (i_eq Z1' k_0 rfl))]
    have ek' : ∀ dd, fb229 dd a1 a2 b3 b4 k = g229_55 dd b3 0 (mx_uI (mx_uI (mx_uI k (.inl 105) 46 (k.2.1 (.inl 105) 46 + 1)) (.inl 105) 47 (k.2.1 (.inl 105) 47 ||| (1 <<< (k.2.1 (.inl 139) w &&& 31)))) (.inl 105) 50 0) := fun dd => by
      rw [ek, if_pos rfl, if_neg (fun w => w rfl)]
    obtain ⟨k', p1, p2, p3, p4⟩ := q6 b3 0 (mx_uI (mx_uI (mx_uI k (.inl 105) 46 (k.2.1 (.inl 105) 46 + 1)) (.inl 105) 47 (k.2.1 (.inl 105) 47 ||| (1 <<< (k.2.1 (.inl 139) w &&& 31)))) (.inl 105) 50 0) hb rfl rI_s (fun i hi => by
      rw [rN (by decide), rN (by decide), rN (by decide)]
      exact O i hi)
    refine ⟨fun dd dd' => by rw [ek', ek', p1, p1], ?_⟩
    rw [ek', p1]
    refine ⟨fun q i => (rI_a (fun e => by cases e)).trans ((rI_a (fun e => by cases e)).trans ((q2 q i).trans (K q i))), fun q i h1 h2 => ?_, fun j hj => ⟨?_, ?_⟩, 1, by decide, Nat.le_refl _, ?_, ?_, ?_, ?_, ?_, fun _ => ?_⟩
    · by_cases q105 : q = 105
      · subst q105
        rw [rI_i (by omega), p3 i (by omega), rI_i (by omega), rI_i (by omega), rI_i (by omega)]
        exact R 105 i h1 h2
      · rw [rI_a (fun w => q105 (Sum.inl.inj w)), p4 q i q105, rI_a (fun w => q105 (Sum.inl.inj w)), rI_a (fun w => q105 (Sum.inl.inj w)), rI_a (fun w => q105 (Sum.inl.inj w))]
        exact R q i h1 h2
    · rw [rN (by decide), rN (by decide), q3 37 j (by decide)]
    · rw [rN (by decide), p4 139 j (by decide), rN (by decide), rN (by decide), rN (by decide)]
    · unfold rD
      rw [rI_s, rI_i (by decide), e0]
      exact i_add Z1' k_1 (by decide) (by decide)
    · unfold rD
      rw [rI_i (by decide), p3 46 (by decide), rI_i (by decide), rI_i (by decide), rI_s]
      exact i_add Z2' k_1 (by decide) (by decide)
    · rw [rN (by decide), rN (by decide), q5 (Nat.zero_le _), rI_i (by decide), p3 47 (by decide), rI_i (by decide), rI_s, Z3, O w hw]
    · unfold rD
      rw [rI_i (by decide), p3 48 (by decide), rI_i (by decide), rI_i (by decide), rI_i (by decide)]
      exact Z4
    · rw [rI_s]
      rfl
    · rw [rI_i (by decide), rI_s, rI_i (by decide), p2]
  · rw [if_pos (show g.2.1 (.inl 35) 0 ≠ 0 from i_ne Z1' k_0 (by omega))]
    have ek' : ∀ dd, fb229 dd a1 a2 b3 b4 k = mx_uI (mx_uI k (.inl 105) 46 (k.2.1 (.inl 105) 46 + 1)) (.inl 105) 47 (k.2.1 (.inl 105) 47 ||| (1 <<< (k.2.1 (.inl 139) w &&& 31))) := fun dd => by
      rw [ek, if_neg z, if_pos n10]
    refine ⟨fun dd dd' => by rw [ek', ek'], ?_⟩
    rw [ek']
    refine ⟨fun q i => (rI_a (fun e => by cases e)).trans ((q2 q i).trans (K q i)), fun q i h1 h2 => ?_, fun j hj => ⟨?_, ?_⟩, f + 1, by omega, Nat.le_refl _, ?_, ?_, ?_, ?_, ?_, fun _ => ?_⟩
    · by_cases q105 : q = 105
      · subst q105
        rw [rI_i (by omega), rI_i (by omega)]
        exact R 105 i h1 h2
      · rw [rI_a (fun w => q105 (Sum.inl.inj w)), rI_a (fun w => q105 (Sum.inl.inj w))]
        exact R q i h1 h2
    · rw [rN (by decide), q3 37 j (by decide)]
    · rw [rN (by decide), rN (by decide)]
    · unfold rD
      rw [rI_s]
      exact (i_add Z1' k_1 (by omega) (by omega)).trans (by omega)
    · unfold rD
      rw [rI_i (by decide), rI_s]
      exact (i_add Z2' k_1 (by omega) (by omega)).trans (by omega)
    · rw [rN (by decide), q5 (Nat.zero_le _), rI_s, Z3, O w hw]
    · unfold rD
      rw [rI_i (by decide), rI_i (by decide)]
      exact Z4
    · rw [rI_i (by decide), rI_i (by decide), Z5, if_neg z, if_neg (by omega)]
    · rw [rI_i (by decide), e1, rI_i (by decide), rI_i (by decide)]
      exact Z6 z
/-- used corners as bits -/
theorem tu_b1 : ∀ u, u < 64 → ∀ t, t < 6 → (((nI u >>> (nI t &&& 31)) &&& 1 = 1) ↔ u.testBit t = true) := by decide +kernel
theorem tu_b2 : ∀ u, u < 64 → ∀ t, t < 6 → (nI u ||| (1 <<< (nI t &&& 31)) = nI (u ||| 2 ^ t) ∧ u ||| 2 ^ t < 64) := by decide +kernel
def tu_U (b4 : Int32) (c : Nat) (r : Nat → Nat) : Prop := ∃ u, u < 64 ∧ b4 = nI u ∧ ∀ t, t < 6 → (u.testBit t = true ↔ ∃ j, j < c ∧ r j = t)
def tu_O (g k : mx_H) (C c : Nat) (r : Nat → Nat) : Prop := ∀ j, j < c → rD g (.inl 37) j = (r j : Nat) ∧ k.2.1 (.inl 139) j = g.2.1 (.inl 37) j ∧ r j < C
/-- what a call at depth c does (cc0, dd0: the same with less to spare) -/
def tu_R (cc cc0 : Nat → Nat → Int32 → mx_H → mx_H) (dd dd0 : Int32 → Int32 → Int32 → Int32 → mx_H → mx_H) (g0 hr : mx_H) (s o C w c b : Nat) (a1 a2 : Int32) : Prop := ∀ (r : Nat → Nat) (a3 b3 b4 : Int32) (g k : mx_H) (f : Nat), a3.toInt = (c : Int) → b3.toInt = (c : Int) → tc_F g0 g → tr_F hr k → tu_O g k C c r → tu_U b4 c r → tu_S g k w f → f + b ≤ 50000 → cc s o a3 g = cc0 s o a3 g ∧ dd a1 a2 b3 b4 k = dd0 a1 a2 b3 b4 k ∧ tu_Z hr g0 g k (cc s o a3 g) (dd a1 a2 b3 b4 k) c w f b
theorem Tloop {b : Nat} {cc0 : Nat → Nat → Int32 → mx_H → mx_H} {dd0 : Int32 → Int32 → Int32 → Int32 → mx_H → mx_H} (W : tu_W g0 hr s o C) (h1 : a1.toInt = (s : Int)) (h2 : a2.toInt = (o : Int)) (lc : c < C) (IH : tu_R cc cc0 dd dd0 g0 hr s o C w (c + 1) b a1 a2) (h3 : a3.toInt = (c : Int)) (U : tu_U b4 c r) : ∀ (n t : Nat) (a4 : Int32) {g k : mx_H} {f : Nat}, t + n = C → a4.toInt = (t : Int) → tc_F g0 g → tr_F hr k → tu_O g k C c r → tu_S g k w f → f + n * b ≤ 50000 → g97_23 cc s o a3 a4 g = g97_23 cc0 s o a3 a4 g ∧ g229_95 dd a1 a2 a3 b4 a4 k = g229_95 dd0 a1 a2 a3 b4 a4 k ∧ tu_Z hr g0 g k (g97_23 cc s o a3 a4 g) (g229_95 dd a1 a2 a3 b4 a4 k) c w f (n * b)
  | 0, t, a4, g, k, f, e, h4, K, R, O, Z, B => by
    obtain ⟨W1, W2, W3, W4, W5, W6, W7, W8, W9, W10⟩ := W
    have eg : ∀ cc, g97_23 cc s o a3 a4 g = g := fun cc => by
      rw [g97_23_eq, if_pos (show g.2.1 (.inr (o, 0)) 0 ≤ a4 from i_le (p := (C : Int)) (by rw [K]; exact W5) h4 (by omega))]
    have ek : ∀ dd, g229_95 dd a1 a2 a3 b4 a4 k = k := fun dd => by
      rw [g229_95_eq, i_cl h1, if_pos (show k.2.1 (.inl 106) s ≤ a4 from i_le (p := (C : Int)) (by rw [R 106 s (by decide) (nq (by decide))]; exact W6) h4 (by omega))]
    rw [eg, eg, ek, ek]
    exact ⟨rfl, rfl, K, R, fun _ _ => ⟨rfl, rfl⟩, f, Nat.le_refl _, by omega, Z⟩
  | n + 1, t, a4, g, k, f, e, h4, K, R, O, Z, B => by
    obtain ⟨W1, W2, W3, W4, W5, W6, W7, W8, W9, W10⟩ := id W
    have h4' := (i_add h4 k_1 (by omega) (by omega)).trans (show (t : Int) + 1 = ((t + 1 : Nat) : Int) by omega)
    have lt : t < C := by omega
    rw [Nat.succ_mul] at B ⊢
    have eg : ∀ cc, g97_23 cc s o a3 a4 g = if f98 s a3 o a4 g = 0 then g97_23 cc s o a3 (a4 + 1) g else if f99 a3 a4 g = 0 then g97_23 cc s o a3 (a4 + 1) g else g97_23 cc s o a3 (a4 + 1) (cc s o (a3 + 1) (mx_uI g (.inl 37) c a4)) := fun cc => by
      rw [g97_23_eq, if_neg (show ¬ g.2.1 (.inr (o, 0)) 0 ≤ a4 from i_nle (p := (C : Int)) (by rw [K]; exact W5) h4 (by omega)), i_cl h3]
      rfl
    have ek : ∀ dd, g229_95 dd a1 a2 a3 b4 a4 k = if ((b4 >>> (a4 &&& 31)) &&& 1) = 1 then g229_95 dd a1 a2 a3 b4 (a4 + 1) k else if f98 s a3 o a4 g ≠ 0 then g229_138 dd a1 a2 a3 b4 a4 1 0 k else g229_95 dd a1 a2 a3 b4 (a4 + 1) k := fun dd => by
      rw [g229_95_eq, i_cl h1, if_neg (show ¬ k.2.1 (.inl 106) s ≤ a4 from i_nle (p := (C : Int)) (by rw [R 106 s (by decide) (nq (by decide))]; exact W6) h4 (by omega)), T98 W K R h1 h2 h3 h4 lc lt]
    have eb : a4 = nI t := i_nI h4
    obtain ⟨u, u64, u1, u2⟩ := id U
    have skip : (∀ cc, g97_23 cc s o a3 a4 g = g97_23 cc s o a3 (a4 + 1) g) → (∀ dd, g229_95 dd a1 a2 a3 b4 a4 k = g229_95 dd a1 a2 a3 b4 (a4 + 1) k) → g97_23 cc s o a3 a4 g = g97_23 cc0 s o a3 a4 g ∧ g229_95 dd a1 a2 a3 b4 a4 k = g229_95 dd0 a1 a2 a3 b4 a4 k ∧ tu_Z hr g0 g k (g97_23 cc s o a3 a4 g) (g229_95 dd a1 a2 a3 b4 a4 k) c w f (n * b + b) := fun s1 s2 => by
      rw [s1, s1, s2, s2]
      obtain ⟨y1, y2, z1, z2, z3, f', z4, z5, z6⟩ := Tloop W h1 h2 lc IH h3 U n (t + 1) (a4 + 1) (g := g) (k := k) (f := f) (by omega) h4' K R O Z (by omega)
      exact ⟨y1, y2, z1, z2, z3, f', z4, by omega, z6⟩
    have Or' : ∀ j, j < c → rD k (.inl 139) j = (r j : Nat) ∧ r j < C := fun j hj => ⟨by
      unfold rD
      rw [(O j hj).2.1]
      exact (O j hj).1, (O j hj).2.2⟩
    rcases T99 (r := r) W K (fun j hj => ⟨(O j hj).1, (O j hj).2.2⟩) h3 h4 lc lt c 0 0 (by omega) rfl with ⟨p1, p2⟩ | ⟨p1, p2⟩
    · have used : ¬ (b4 >>> (a4 &&& 31)) &&& 1 = 1 := fun q => by
        rw [u1, eb] at q
        obtain ⟨j, j1, j2⟩ := (u2 t (by omega)).mp ((tu_b1 u u64 t (by omega)).mp q)
        exact (p1 j (Nat.zero_le _) j1).1 j2
      by_cases z : f98 s a3 o a4 g = 0
      · exact skip (fun cc => by rw [eg, if_pos z]) (fun dd => by rw [ek, if_neg used, if_neg (fun q => q z)])
      · rcases T138 (b4 := b4) (r := r) W R Or' h1 h2 h3 h4 lc lt c 0 0 (by omega) rfl with ⟨r1, r2⟩ | ⟨r1, r2⟩
        · have eg2 : ∀ cc, g97_23 cc s o a3 a4 g = g97_23 cc s o a3 (a4 + 1) (cc s o (a3 + 1) (mx_uI g (.inl 37) c a4)) := fun cc => by
            rw [eg, if_neg z, f99_eq, p2, if_neg n10]
          have ek2 : ∀ dd, g229_95 dd a1 a2 a3 b4 a4 k = g229_95 dd a1 a2 a3 b4 (a4 + 1) (dd a1 a2 (a3 + 1) (b4 ||| (1 <<< (a4 &&& 31))) (mx_uI k (.inl 139) c a4)) := fun dd => by
            rw [ek, if_neg used, if_pos z, r2]
          obtain ⟨v1, v2⟩ := tu_b2 u u64 t (by omega)
          have O' : tu_O (mx_uI g (.inl 37) c a4) (mx_uI k (.inl 139) c a4) C (c + 1) (fun j => if j = c then t else r j) := fun j hj => by
            unfold rD
            by_cases jc : j = c
            · subst jc
              rw [rI_s, rI_s]
              dsimp only
              rw [if_pos rfl]
              exact ⟨h4, rfl, lt⟩
            · rw [rI_i jc, rI_i jc]
              dsimp only
              rw [if_neg jc]
              exact O j (by omega)
          have h3' := (i_add h3 k_1 (by omega) (by omega)).trans (show (c : Int) + 1 = ((c + 1 : Nat) : Int) by omega)
          obtain ⟨y1, y2, z1, z2, z3, f1, z4, z5, z6⟩ := IH (fun j => if j = c then t else r j) (a3 + 1) (a3 + 1) (b4 ||| (1 <<< (a4 &&& 31))) (mx_uI g (.inl 37) c a4) (mx_uI k (.inl 139) c a4) f h3' h3' (fun q i => (rI_a (fun e => by cases e)).trans (K q i)) R.fu O' ⟨u ||| 2 ^ t, v2, by rw [u1, eb]; exact v1, fun t' ht' => by
            rw [Nat.testBit_or, Nat.testBit_two_pow]
            constructor
            · intro q
              rcases (Bool.or_eq_true _ _).mp q with q | q
              · obtain ⟨j, j1, j2⟩ := (u2 t' ht').mp q
                exact ⟨j, by omega, (if_neg (by omega)).trans j2⟩
              · exact ⟨c, by omega, (if_pos rfl).trans (of_decide_eq_true q)⟩
            · intro ⟨j, j1, j2⟩
              by_cases jc : j = c
              · have j2 : t = t' := (if_pos jc).symm.trans j2
                rw [j2]
                simp
              · have j2 : r j = t' := (if_neg jc).symm.trans j2
                rw [(u2 t' ht').mpr ⟨j, by omega, j2⟩]
                rfl⟩ (by
            obtain ⟨y1, y2, y3, y4, y5, y6⟩ := Z
            unfold tu_S rD
            rw [rN (show (35 : Nat) ≠ 37 by decide), rN (show (36 : Nat) ≠ 37 by decide), rN (show (105 : Nat) ≠ 139 by decide)]
            exact ⟨y1, y2, y3, y4, y5, y6⟩) (by omega)
          obtain ⟨x1, x2, w1, w2, w3, f2, w4, w5, w6⟩ := Tloop W h1 h2 lc IH h3 U n (t + 1) (a4 + 1) (g := cc s o (a3 + 1) (mx_uI g (.inl 37) c a4)) (k := dd a1 a2 (a3 + 1) (b4 ||| (1 <<< (a4 &&& 31))) (mx_uI k (.inl 139) c a4)) (f := f1) (by omega) h4' z1 z2 (fun j hj => by
            unfold rD
            rw [(z3 j (by omega)).1, (z3 j (by omega)).2, rI_i (by omega), rI_i (by omega)]
            exact O j hj) z6 (by omega)
          refine ⟨?_, ?_, ?_⟩
          · rw [eg2, eg2, x1, y1]
          · rw [ek2, ek2, x2, y2]
          · rw [eg2, ek2]
            exact ⟨w1, w2, fun j hj => ⟨(w3 j hj).1.trans ((z3 j (by omega)).1.trans (rI_i (by omega))), (w3 j hj).2.trans ((z3 j (by omega)).2.trans (rI_i (by omega)))⟩, f2, by omega, by omega, w6⟩
        · exact absurd (fun i l1 l2 => (p1 i l1 l2).2) r1
    · refine skip (fun cc => by
        rw [eg, f99_eq, p2, if_pos rfl]
        split <;> rfl) (fun dd => ?_)
      by_cases used : (b4 >>> (a4 &&& 31)) &&& 1 = 1
      · rw [ek, if_pos used]
      · rw [ek, if_neg used]
        by_cases z : f98 s a3 o a4 g ≠ 0
        · rw [if_pos z]
          rcases T138 (b4 := b4) (r := r) W R Or' h1 h2 h3 h4 lc lt c 0 0 (by omega) rfl with ⟨r1, r2⟩ | ⟨r1, r2⟩
          · refine absurd (fun i l1 l2 => ⟨fun q => used ?_, r1 i l1 l2⟩) p1
            rw [u1, eb]
            exact (tu_b1 u u64 t (by omega)).mpr ((u2 t (by omega)).mpr ⟨i, l2, q⟩)
          · exact r2 dd
        · rw [if_neg z]
/-- the whole search, from depth c on -/
theorem Trec (W : tu_W g0 hr s o C) (h1 : a1.toInt = (s : Int)) (h2 : a2.toInt = (o : Int)) (hw : w < C) : ∀ (d c K L : Nat), c + d = C → d ≤ K → d ≤ L → tu_R (ff97 (K + 1)) (ff97 (d + 1)) (ff229 (L + 1)) (ff229 (d + 1)) g0 hr s o C w c (6 ^ d) a1 a2
  | 0, c, K, L, e, _, _ => fun r a3 b3 b4 g k f h3 hb3 F R O U Z B => by
    have ec : c = C := by omega
    subst ec
    rw [ff97_eq, ff229_eq, ff97_eq, ff229_eq]
    obtain ⟨q1, q2, q3⟩ := Tleaf (g0 := g0) (cc := ff97 K) (dd := ff229 L) (o := o) (a2 := a2) (b4 := b4) F R h3 hb3 W.1 hw Z (by omega) (fun j hj => (O j hj).2.1) (show rD g (.inr (s, 0)) 0 = c by unfold rD; rw [F]; exact W.2.2.2.1) (show rD k (.inl 106) s = c by unfold rD; rw [R 106 s (by decide) (nq (by decide))]; exact W.2.2.2.2.2.1) h1
    exact ⟨q1 _ _, q2 _ _, q3⟩
  | d + 1, c, K, L, e, hK, hL => fun r a3 b3 b4 g k f h3 hb3 F R O U Z B => by
    obtain ⟨K', rfl⟩ : ∃ K', K = K' + 1 := ⟨K - 1, by omega⟩
    obtain ⟨L', rfl⟩ : ∃ L', L = L' + 1 := ⟨L - 1, by omega⟩
    have IH := Trec W h1 h2 hw d (c + 1) K' L' (by omega) (by omega) (by omega)
    have C6 := W.1
    have lc : c < C := by omega
    have e33 : b3 = a3 := i_eq hb3 h3 rfl
    subst e33
    have eg : ∀ cc, fb97 cc s o b3 g = g97_23 cc s o b3 0 g := fun cc => by
      rw [fb97_eq, if_neg (show ¬ g.2.1 (.inr (s, 0)) 0 ≤ b3 from i_nle (p := (C : Int)) (by rw [F]; exact W.2.2.2.1) h3 (by omega)), if_pos (i_lt h3 k_6 (by omega))]
    have ek : ∀ dd, fb229 dd a1 a2 b3 b4 k = g229_95 dd a1 a2 b3 b4 0 k := fun dd => by
      rw [fb229_eq, i_cl h1, if_pos (show b3 ≠ k.2.1 (.inl 106) s from i_ne (q := (C : Int)) hb3 (by rw [R 106 s (by decide) (nq (by decide))]; exact W.2.2.2.2.2.1) (by omega))]
    have e6 : 6 ^ (d + 1) = 6 ^ d * 6 := Nat.pow_succ 6 d
    have le : C * 6 ^ d ≤ 6 ^ (d + 1) := by
      rw [e6, Nat.mul_comm]
      exact Nat.mul_le_mul_left _ C6
    obtain ⟨y1, y2, z1, z2, z3, f', z4, z5, z6⟩ := Tloop W h1 h2 lc IH h3 U C 0 0 (g := g) (k := k) (f := f) (by omega) rfl F R O Z (by omega)
    rw [ff97_eq, ff229_eq, ff97_eq (d + 1), ff229_eq (d + 1), eg, eg, ek, ek]
    exact ⟨y1, y2, z1, z2, z3, f', z4, by omega, z6⟩
end TU
