/-! ===== 84z: BOUNDS: nets whose pieces are stiffer by d, whose corners are lighter by d ===== -/
section MZ
variable {h g hc hr k : mx_H} {S N C n F s t u v c b : Nat} {a1 a2 a3 a4 a5 a6 x y w d : Int32} {D : Int}
/-- 1 .. 9 -/
theorem w24c (hx : x.toInt = D) : (f24 x).toInt = (if 1 ≤ D then (if D ≤ 9 then D else 9) else 1) := by
  rw [f24_eq]
  by_cases c : D < 9
  · rw [if_pos (i_lt hx k_9 c)]
    by_cases q : 1 < D
    · rw [if_pos (i_lt k_1 hx q), if_pos (by omega), if_pos (by omega)]
      exact hx
    · rw [if_neg (i_nlt k_1 hx (by omega))]
      by_cases q1 : 1 ≤ D
      · rw [if_pos q1, if_pos (by omega)]
        show (1 : Int) = D
        omega
      · rw [if_neg q1]
        rfl
  · rw [if_neg (i_nlt hx k_9 (by omega)), if_pos (by decide), if_pos (by omega)]
    by_cases q : D ≤ 9
    · rw [if_pos q]
      show (9 : Int) = D
      omega
    · rw [if_neg q]
      rfl
theorem w24b : 1 ≤ (f24 x).toInt ∧ (f24 x).toInt ≤ 9 := by
  rw [w24c (x := x) rfl]
  split
  · split <;> omega
  · omega
theorem w24_1 (h : 1 ≤ x) (h2 : x ≤ 9) : f24 x = x := by
  have e1 : 1 ≤ x.toInt := Int32.le_iff_toInt_le.mp h
  have e2 : x.toInt ≤ 9 := Int32.le_iff_toInt_le.mp h2
  exact w24 e1 e2
theorem w24_9 (h : 1 ≤ x) (h2 : ¬ x ≤ 9) : f24 x = 9 := by
  have e1 : 1 ≤ x.toInt := Int32.le_iff_toInt_le.mp h
  have e2 : ¬ x.toInt ≤ 9 := fun q => h2 (Int32.le_iff_toInt_le.mpr q)
  refine i_eq (w24c rfl) k_9 ?_
  rw [if_pos e1, if_neg e2]
theorem w24_0 (h : ¬ 1 ≤ x) : f24 x = 1 := by
  have e1 : ¬ 1 ≤ x.toInt := fun q => h (Int32.le_iff_toInt_le.mpr q)
  refine i_eq (w24c rfl) k_1 ?_
  rw [if_neg e1]
/-- what a corner weighs -/
noncomputable def km_m (d x w : Int32) : Int32 := if f24 (x - d) + w < 9 then f24 (x - d) + w else 9
theorem km_mass (w1 : 0 ≤ w.toInt) (w2 : w.toInt ≤ 9) : km_m d x w = f207 (f24 (x - d)) w ∧ 1 ≤ (f207 (f24 (x - d)) w).toInt ∧ (f207 (f24 (x - d)) w).toInt ≤ 9 := by
  have b := w24b (x := x - d)
  have m := w_mass (x := f24 (x - d)) (w := w) b.1 b.2 w1 w2
  refine ⟨?_, m.2.1, m.2.2⟩
  rw [← m.1]
  unfold km_m kn_m
  rw [i_s0, w24 b.1 b.2]
/-- what a piece counts -/
noncomputable def km_v (d x w : Int32) : Int32 := f24 (x + d) - (if f24 (x + d) < w then f24 (x + d) else w)
theorem km_vb (w1 : 0 ≤ w.toInt) : 0 ≤ (km_v d x w).toInt ∧ (km_v d x w).toInt ≤ 9 := by
  have b := w24b (x := x + d)
  unfold km_v
  by_cases q : (f24 (x + d)).toInt < w.toInt
  · rw [if_pos (i_lt rfl rfl q), i_sub (x := f24 (x + d)) (y := f24 (x + d)) rfl rfl (by omega) (by omega)]
    omega
  · rw [if_neg (i_nlt rfl rfl (by omega)), i_sub (x := f24 (x + d)) (y := w) rfl rfl (by omega) (by omega)]
    omega
noncomputable def km_s (d : Int32) (h : mx_H) (t s i : Nat) : mx_H := mx_uI (mx_uI (mx_uI h (.inr (t, 31)) i (km_m d (h.2.1 (.inr (s, 1)) i) (h.2.1 (.inr (s, 3)) i))) (.inr (t, 32)) i (h.2.1 (.inr (s, 2)) i)) (.inr (t, 33)) i (h.2.1 (.inr (s, 4)) i)
theorem C23cd (hC : rD h (.inr (t, 30)) 0 = C) (ha : a3.toInt = (c : Int)) (lt : c < C) : g23_18 t s d a3 h = g23_18 t s d (a3 + 1) (km_s d h t s c) := by
  rw [g23_18_eq, if_neg (i_nle hC ha (by omega)), f25_eq, i_cl ha]
  simp only [x_h, rP (o := 2) (o' := 31) (by decide), rP (o := 4) (o' := 31) (by decide), rP (o := 4) (o' := 32) (by decide)]
  rfl
def km_C (d : Int32) (h g : mx_H) (t s C c : Nat) : Prop := kn_F h g t ∧ rD g (.inr (t, 30)) 0 = C ∧ (∀ i, i < 36 → g.2.1 (.inr (t, 34)) i = 0) ∧ ∀ i, i < c → g.2.1 (.inr (t, 31)) i = km_m d (h.2.1 (.inr (s, 1)) i) (h.2.1 (.inr (s, 3)) i) ∧ g.2.1 (.inr (t, 32)) i = h.2.1 (.inr (s, 2)) i ∧ g.2.1 (.inr (t, 33)) i = h.2.1 (.inr (s, 4)) i
theorem C23ld (C6 : C ≤ 6) : ∀ (j c : Nat) (a3 : Int32) {g : mx_H}, c + j = C → a3.toInt = (c : Int) → km_C d h g t s C c → ∃ g', g23_18 t s d a3 g = g23_80 t s d 0 g' ∧ km_C d h g' t s C C
  | 0, c, a3, g, e, ha, K => by
    refine ⟨g, ?_, (show c = C by omega) ▸ K⟩
    rw [g23_18_eq, if_pos (i_le K.2.1 ha (by omega))]
  | j + 1, c, a3, g, e, ha, K => by
    obtain ⟨K1, K2, K3, K4⟩ := K
    rw [C23cd K2 ha (by omega)]
    refine C23ld C6 j (c + 1) (a3 + 1) (by omega) ((i_add ha k_1 (by omega) (by omega)).trans (by omega)) ⟨((K1.fu (by decide) (by decide)).fu (by decide) (by decide)).fu (by decide) (by decide), ?_, fun i hi => ?_, fun i hi => ?_⟩
    · unfold rD km_s
      rw [rP (by decide), rP (by decide), rP (by decide)]
      exact K2
    · unfold km_s
      rw [rP (by decide), rP (by decide), rP (by decide)]
      exact K3 i hi
    · unfold km_s
      by_cases z : i = c
      · subst z
        refine ⟨?_, ?_, ?_⟩
        · rw [rP (by decide), rP (by decide), rI_s, K1.2.2.2 s 1 i (by omega), K1.2.2.2 s 3 i (by omega)]
        · rw [rP (by decide), rI_s, K1.2.2.2 s 2 i (by omega)]
        · rw [rI_s, K1.2.2.2 s 4 i (by omega)]
      · rw [rI_i z, rI_i z, rI_i z, rI_i z, rI_i z, rI_i z, rI_i z, rI_i z, rI_i z]
        exact K4 i (by omega)
noncomputable def km_L (d : Int32) (hr : mx_H) (s F c u v : Nat) : Int32 := if 0 < rD hr (.inl 113) (36 * s + 6 * u + v) ∧ rD hr (.inl 113) (36 * s + 6 * u + v) ≤ ((F + c : Nat) : Int) then km_v d (hr.2.1 (.inl 111) (36 * s + 6 * u + v)) (hr.2.1 (.inl 112) (36 * s + 6 * u + v)) else 0
def km_P (d : Int32) (hc hr g0 g : mx_H) (t s F c : Nat) : Prop := kn_F hc g t ∧ (∀ o i, o ≠ 34 → g.2.1 (.inr (t, o)) i = g0.2.1 (.inr (t, o)) i) ∧ ∀ u v, u < 6 → v < 6 → g.2.1 (.inr (t, 34)) (6 * u + v) = km_L d hr s F c u v
theorem C23qd (hs : s ≤ 12) (C6 : C ≤ 6) (Q : rs_k hc hr s C F n u v) (hn : rD g (.inr (s, 0)) 6 = c) (hk : n < c) (ha : a3.toInt = (n : Int)) (KF : kn_F hc g t) : g23_80 t s d a3 g = g23_80 t s d (a3 + 1) (mx_uI (mx_uI g (.inr (t, 34)) (6 * min u v + max u v) (km_v d (hc.2.1 (.inr (s, 7)) n) (hc.2.1 (.inr (s, 8)) n))) (.inr (t, 34)) (6 * max u v + min u v) (km_v d (hc.2.1 (.inr (s, 7)) n) (hc.2.1 (.inr (s, 8)) n))) := by
  obtain ⟨o1, o2, o3, o4, o5, o6, o7, o8, o9, o10, o11, o12, o13⟩ := Q
  have z1 := w6 o4 o5 (show min u v ≤ 12 by omega) (show max u v < 6 by omega)
  have z2 := w6 o5 o4 (show max u v ≤ 12 by omega) (show min u v < 6 by omega)
  rw [g23_80_eq, if_neg (i_nle hn ha (by omega)), i_cl ha, KF.2.2.2 s 7 n (by omega), KF.2.2.2 s 5 n (by omega), KF.2.2.2 s 6 n (by omega), KF.2.2.2 s 8 n (by omega)]
  simp only [x_h, x_val]
  rw [f26_eq, i_cl z1, i_cl z2]
  rfl
theorem C23pd (s12 : s ≤ 12) (Ds : rs_D hc hr N s C n F) (N200 : N ≤ 200) {g0 : mx_H} : ∀ (j c : Nat) (a3 : Int32) {g : mx_H}, c + j = n → a3.toInt = (c : Int) → km_P d hc hr g0 g t s F c → km_P d hc hr g0 (g23_80 t s d a3 g) t s F n
  | 0, c, a3, g, e, ha, K => by
    have hn : rD g (.inr (s, 0)) 6 = n := by
      unfold rD
      rw [K.1.2.2.2 s 0 6 (by omega)]
      exact Ds.2.2.2.2.2.1
    rw [g23_80_eq, if_pos (i_le hn ha (by omega))]
    exact (show c = n by omega) ▸ K
  | j + 1, c, a3, g, e, ha, K => by
    obtain ⟨K1, K2, K3⟩ := K
    obtain ⟨c1, c6, fn, d1, d2, d3, d4, d5, d6, d7, d8, d9, d10⟩ := id Ds
    have hn : rD g (.inr (s, 0)) 6 = n := by
      unfold rD
      rw [K1.2.2.2 s 0 6 (by omega)]
      exact d3
    obtain ⟨u, v, Q⟩ := d7 c (by omega)
    rw [C23qd s12 c6 Q hn (by omega) ha K1]
    refine C23pd s12 Ds N200 j (c + 1) (a3 + 1) (by omega) ((i_add ha k_1 (by omega) (by omega)).trans (by omega)) ⟨(K1.fu (by decide) (by decide)).fu (by decide) (by decide), fun o i ho => ?_, fun a b ha6 hb6 => ?_⟩
    · rw [rP ho, rP ho]
      exact K2 o i ho
    · obtain ⟨o1, o2, o3, o4, o5, o6, o7, o8, o9, o10, o11, o12, o13⟩ := id Q
      by_cases z : (a = u ∧ b = v) ∨ (a = v ∧ b = u)
      · have rd : ∀ w : Int32, (mx_uI (mx_uI g (.inr (t, 34)) (6 * min u v + max u v) w) (.inr (t, 34)) (6 * max u v + min u v) w).2.1 (.inr (t, 34)) (6 * a + b) = w := fun w => by
          by_cases q1 : 6 * a + b = 6 * max u v + min u v
          · rw [rI_c rfl q1]
          · rw [rI_i q1, rI_c rfl (by omega)]
        rw [rd]
        unfold km_L
        rcases z with ⟨z1, z2⟩ | ⟨z1, z2⟩
        · rw [z1, z2, o6, if_pos ⟨by omega, by omega⟩, o8, o10]
        · rw [z1, z2, o7, if_pos ⟨by omega, by omega⟩, o9, o11]
      · rw [rI_i (by omega), rI_i (by omega), K3 a b ha6 hb6]
        have ne : ¬ rD hr (.inl 113) (36 * s + 6 * a + b) = ((F + c + 1 : Nat) : Int) := fun w => by
          rcases d8 a b ha6 hb6 with q | ⟨k, hk, q | q⟩
          · rw [show rD hr (.inl 113) (36 * s + 6 * a + b) = 0 from congrArg Int32.toInt q] at w
            omega
          · obtain ⟨p1, p2, p3, p4, p5, p6, -⟩ := q
            have ek : k = c := by omega
            subst ek
            omega
          · obtain ⟨p1, p2, p3, p4, p5, p6, p7, -⟩ := q
            have ek : k = c := by omega
            subst ek
            omega
        unfold km_L
        by_cases q : 0 < rD hr (.inl 113) (36 * s + 6 * a + b) ∧ rD hr (.inl 113) (36 * s + 6 * a + b) ≤ ((F + c : Nat) : Int)
        · rw [if_pos q, if_pos ⟨q.1, by omega⟩]
        · rw [if_neg q, if_neg (fun w => q ⟨w.1, by omega⟩)]
/-! the reference's net: what it changes of one that was taken -/
theorem km_r : (if 1 ≤ x then (if x ≤ 9 then f207 x w else f207 9 w) else f207 1 w) = f207 (f24 x) w := by
  by_cases q1 : 1 ≤ x
  · rw [if_pos q1]
    by_cases q2 : x ≤ 9
    · rw [if_pos q2, w24_1 q1 q2]
    · rw [if_neg q2, w24_9 q1 q2]
  · rw [if_neg q1, w24_0 q1]
theorem km_174 : f24 x - f174 (f24 x) w = f24 x - (if f24 x < w then f24 x else w) := by
  rw [f174_eq]
  congr 1
  by_cases q : (f24 x).toInt < w.toInt
  · rw [if_pos (i_lt rfl rfl q), if_neg (i_nle rfl rfl (by omega))]
  · rw [if_neg (i_nlt rfl rfl (by omega)), if_pos (i_le rfl rfl (by omega))]
noncomputable def km_l (d : Int32) (h : mx_H) (s u v : Nat) : Int32 := if 0 < rD h (.inl 113) (36 * s + 6 * u + v) then km_v d (h.2.1 (.inl 111) (36 * s + 6 * u + v)) (h.2.1 (.inl 112) (36 * s + 6 * u + v)) else 0
/-- d: by how much -/
def km_d (a4 a5 d : Int32) : Prop := (a5 ≠ 0 ∧ d = a4) ∨ (a5 = 0 ∧ d = -a4)
theorem R224q (hd : km_d a4 a5 d) (h1 : a1.toInt = (s : Int)) (h6 : a6.toInt = (u : Int)) (h8 : x.toInt = (c : Int)) (s12 : s ≤ 12) (C6 : C ≤ 6) (u6 : u < C) (lt : c < C) (K : rn_F h g) (hC : rD g (.inl 105) 35 = C) (zr : ¬ 0 < rD h (.inl 113) (36 * s + 6 * u + c) → g.2.1 (.inl 131) (6 * u + c) = 0) : ∃ g', g224_150 a1 a2 a3 a4 a5 a6 x g = g224_150 a1 a2 a3 a4 a5 a6 (x + 1) g' ∧ rn_F h g' ∧ (∀ q i, ¬ (q = .inl 131 ∧ i = 6 * u + c) → g'.2.1 q i = g.2.1 q i) ∧ g'.2.1 (.inl 131) (6 * u + c) = km_l d h s u c := by
  rw [g224_150_eq, if_neg (i_nle hC h8 (by omega)), f180_eq, i_cl (w179 h1 h6 h8 s12 (by omega) (by omega)), i_cl (w6 h6 h8 (by omega) (by omega)), K.2.2.2 113 _ (by omega) (by omega)]
  simp only [x_val]
  rw [i_cl (w179 h1 h6 h8 s12 (by omega) (by omega)), K.2.2.2 111 _ (by omega) (by omega), K.2.2.2 112 _ (by omega) (by omega)]
  unfold km_l
  by_cases p : 0 < rD h (.inl 113) (36 * s + 6 * u + c)
  · rw [if_pos p, if_neg (i_nle rfl k_0 p), if_pos n10]
    generalize h.2.1 (.inl 111) (36 * s + 6 * u + c) = X
    generalize h.2.1 (.inl 112) (36 * s + 6 * u + c) = W
    have fin : ∀ y : Int32, y = km_v d X W → ∃ g', g224_150 a1 a2 a3 a4 a5 a6 (x + 1) (mx_uI g (.inl 131) (6 * u + c) y) = g224_150 a1 a2 a3 a4 a5 a6 (x + 1) g' ∧ rn_F h g' ∧ (∀ q i, ¬ (q = .inl 131 ∧ i = 6 * u + c) → g'.2.1 q i = g.2.1 q i) ∧ g'.2.1 (.inl 131) (6 * u + c) = km_v d X W := fun y e => ⟨_, rfl, K.fu (by decide) (by decide), fun q i hq => if_neg hq, rI_s.trans e⟩
    have cl : ∀ z : Int32, z = X + d → (1 ≤ z → z ≤ 9 → z - f174 z W = km_v d X W) ∧ (1 ≤ z → ¬ z ≤ 9 → 9 - f174 9 W = km_v d X W) ∧ (¬ 1 ≤ z → 1 - f174 1 W = km_v d X W) := fun z e => by
      unfold km_v
      rw [← e]
      refine ⟨fun q1 q2 => ?_, fun q1 q2 => ?_, fun q1 => ?_⟩
      · rw [← km_174, w24_1 q1 q2]
      · rw [← km_174, w24_9 q1 q2]
      · rw [← km_174, w24_0 q1]
    rcases hd with ⟨e5, ed⟩ | ⟨e5, ed⟩
    · rw [if_pos e5]
      obtain ⟨c1, c2, c3⟩ := cl (X + a4) (by rw [ed])
      by_cases q1 : 1 ≤ X + a4
      · rw [if_pos q1]
        by_cases q2 : X + a4 ≤ 9
        · rw [if_pos q2]
          exact fin _ (c1 q1 q2)
        · rw [if_neg q2]
          exact fin _ (c2 q1 q2)
      · rw [if_neg q1]
        exact fin _ (c3 q1)
    · rw [if_neg (fun w => w e5)]
      obtain ⟨c1, c2, c3⟩ := cl (X + -a4) (by rw [ed])
      by_cases q1 : 1 ≤ X + -a4
      · rw [if_pos q1]
        by_cases q2 : X + -a4 ≤ 9
        · rw [if_pos q2]
          exact fin _ (c1 q1 q2)
        · rw [if_neg q2]
          exact fin _ (c2 q1 q2)
      · rw [if_neg q1]
        exact fin _ (c3 q1)
  · rw [if_neg p, if_pos (i_le rfl k_0 (Int.not_lt.mp p)), if_neg (fun w => w rfl)]
    exact ⟨g, rfl, K, fun _ _ _ => rfl, zr p⟩
theorem R224i (hd : km_d a4 a5 d) (h1 : a1.toInt = (s : Int)) (h6 : a6.toInt = (u : Int)) (s12 : s ≤ 12) (C6 : C ≤ 6) (u6 : u < C) : ∀ (j c : Nat) (x : Int32) {g : mx_H}, c + j = C → x.toInt = (c : Int) → rn_F h g → rD g (.inl 105) 35 = C → (∀ v, c ≤ v → v < C → ¬ 0 < rD h (.inl 113) (36 * s + 6 * u + v) → g.2.1 (.inl 131) (6 * u + v) = 0) → ∃ g', g224_150 a1 a2 a3 a4 a5 a6 x g = g224_64 a1 a2 a3 a4 a5 (a6 + 1) g' ∧ rn_F h g' ∧ (∀ q i, ¬ (q = .inl 131 ∧ 6 * u + c ≤ i ∧ i < 6 * u + C) → g'.2.1 q i = g.2.1 q i) ∧ ∀ v, c ≤ v → v < C → g'.2.1 (.inl 131) (6 * u + v) = km_l d h s u v
  | 0, c, x, g, e, hx, K, hC, zr => by
    refine ⟨g, ?_, K, fun _ _ _ => rfl, fun v q1 q2 => by omega⟩
    rw [g224_150_eq, if_pos (i_le hC hx (by omega))]
  | j + 1, c, x, g, e, hx, K, hC, zr => by
    obtain ⟨g1, e1, K1, f1, f2⟩ := R224q (a2 := a2) (a3 := a3) hd h1 h6 hx s12 C6 u6 (by omega) K hC (zr c (Nat.le_refl _) (by omega))
    obtain ⟨g', e2, K2, f3, f4⟩ := R224i hd h1 h6 s12 C6 u6 j (c + 1) (x + 1) (g := g1) (by omega) ((i_add hx k_1 (by omega) (by omega)).trans (by omega)) K1 (by
      unfold rD
      rw [f1 _ _ (fun w => absurd w.1 (ne_l (by decide)))]
      exact hC) (fun v q1 q2 q3 => by
      rw [f1 _ _ (fun w => by omega)]
      exact zr v (by omega) q2 q3)
    refine ⟨g', e1.trans e2, K2, fun q i hq => (f3 q i (fun w => hq ⟨w.1, by omega, by omega⟩)).trans (f1 q i (fun w => hq ⟨w.1, by omega, by omega⟩)), fun v q1 q2 => ?_⟩
    by_cases z : v = c
    · rw [z, f3 _ _ (fun w => by omega)]
      exact f2
    · exact f4 v (by omega) q2
/-- a corner lighter, its pieces stiffer -/
theorem R224s (hd : km_d a4 a5 d) (h1 : a1.toInt = (s : Int)) (h6 : a6.toInt = (u : Int)) (s12 : s ≤ 12) (C6 : C ≤ 6) (u6 : u < C) (K : rn_F h g) (hC : rD g (.inl 105) 35 = C) : g224_64 a1 a2 a3 a4 a5 a6 g = g224_150 a1 a2 a3 a4 a5 a6 0 (mx_uI g (.inl 128) u (f207 (f24 (h.2.1 (.inl 107) (6 * s + u) - d)) (h.2.1 (.inl 109) (6 * s + u)))) := by
  rw [g224_64_eq, if_neg (i_nle hC h6 (by omega)), i_cl (w6 h1 h6 s12 (by omega)), i_cl h6, K.2.2.2 107 _ (by omega) (by omega), K.2.2.2 109 _ (by omega) (by omega)]
  generalize h.2.1 (.inl 107) (6 * s + u) = X
  generalize h.2.1 (.inl 109) (6 * s + u) = W
  have cl : ∀ z : Int32, z = X - d → (if 1 ≤ z then (if z ≤ 9 then g224_150 a1 a2 a3 a4 a5 a6 0 (mx_uI g (.inl 128) u (f207 z W)) else g224_150 a1 a2 a3 a4 a5 a6 0 (mx_uI g (.inl 128) u (f207 9 W))) else g224_150 a1 a2 a3 a4 a5 a6 0 (mx_uI g (.inl 128) u (f207 1 W))) = g224_150 a1 a2 a3 a4 a5 a6 0 (mx_uI g (.inl 128) u (f207 (f24 (X - d)) W)) := fun z e => by
    rw [← e, ← km_r]
    by_cases q1 : 1 ≤ z
    · rw [if_pos q1, if_pos q1]
      by_cases q2 : z ≤ 9
      · rw [if_pos q2, if_pos q2]
      · rw [if_neg q2, if_neg q2]
    · rw [if_neg q1, if_neg q1]
  rcases hd with ⟨e5, ed⟩ | ⟨e5, ed⟩
  · rw [if_pos e5]
    exact cl (X + -a4) (by rw [ed, Int32.sub_eq_add_neg])
  · rw [if_neg (fun w => w e5)]
    exact cl (X + a4) (by rw [ed, Int32.sub_eq_add_neg, Int32.neg_neg])
/-- c corners are changed -/
def km_R (d : Int32) (h k g : mx_H) (s C c : Nat) : Prop := rn_F h g ∧ rD g (.inl 105) 35 = C ∧ (∀ q i, q ≠ .inl 128 → q ≠ .inl 131 → g.2.1 q i = k.2.1 q i) ∧ (∀ i, i < c → g.2.1 (.inl 128) i = f207 (f24 (h.2.1 (.inl 107) (6 * s + i) - d)) (h.2.1 (.inl 109) (6 * s + i))) ∧ (∀ i v, i < c → v < C → g.2.1 (.inl 131) (6 * i + v) = km_l d h s i v) ∧ ∀ i v, c ≤ i → i < C → v < C → g.2.1 (.inl 131) (6 * i + v) = k.2.1 (.inl 131) (6 * i + v)
theorem R224o (hd : km_d a4 a5 d) (h1 : a1.toInt = (s : Int)) (s12 : s ≤ 12) (C6 : C ≤ 6) (zr : ∀ i v, i < C → v < C → ¬ 0 < rD h (.inl 113) (36 * s + 6 * i + v) → k.2.1 (.inl 131) (6 * i + v) = 0) : ∀ (j c : Nat) (a6 : Int32) {g : mx_H}, c + j = C → a6.toInt = (c : Int) → km_R d h k g s C c → ∃ g', g224_64 a1 a2 a3 a4 a5 a6 g = f220 a2 a3 g' ∧ km_R d h k g' s C C
  | 0, c, a6, g, e, ha, K => by
    refine ⟨g, ?_, (show c = C by omega) ▸ K⟩
    rw [g224_64_eq, if_pos (i_le K.2.1 ha (by omega))]
    rfl
  | j + 1, c, a6, g, e, ha, K => by
    obtain ⟨K1, K2, K3, K4, K5, K6⟩ := K
    rw [R224s (a2 := a2) (a3 := a3) hd h1 ha s12 C6 (show c < C by omega) K1 K2]
    obtain ⟨g1, e1, L1, f1, f2⟩ := R224i (a2 := a2) (a3 := a3) (h := h) hd h1 ha s12 C6 (show c < C by omega) C 0 0 (g := mx_uI g (.inl 128) c (f207 (f24 (h.2.1 (.inl 107) (6 * s + c) - d)) (h.2.1 (.inl 109) (6 * s + c)))) (by omega) rfl (K1.fu (by decide) (by decide)) K2 (fun v _ q2 q3 => by
      rw [rN (by decide), K6 c v (Nat.le_refl _) (by omega) q2]
      exact zr c v (by omega) q2 q3)
    rw [e1]
    refine R224o hd h1 s12 C6 zr j (c + 1) (a6 + 1) (by omega) ((i_add ha k_1 (by omega) (by omega)).trans (by omega)) ⟨L1, ?_, fun q i q1 q2 => ?_, fun i hi => ?_, fun i v hi hv => ?_, fun i v q1 q2 q3 => ?_⟩
    · unfold rD
      rw [f1 _ _ (fun w => absurd w.1 (ne_l (by decide)))]
      exact K2
    · rw [f1 _ _ (fun w => q2 w.1), rI_a q1]
      exact K3 q i q1 q2
    · rw [f1 _ _ (fun w => absurd w.1 (ne_l (by decide)))]
      by_cases z : i = c
      · rw [z, rI_s]
      · rw [rI_i z]
        exact K4 i (by omega)
    · by_cases z : i = c
      · rw [z]
        exact f2 v (Nat.zero_le _) hv
      · rw [f1 _ _ (fun w => by omega), rN (by decide)]
        exact K5 i v (by omega) hv
    · rw [f1 _ _ (fun w => by omega), rN (by decide)]
      exact K6 i v (by omega) q2 q3
theorem nt_bound (I : sf_I hr) (e1 : rD hr (.inl 105) 1 = S) (hs : s < S) (s12 : S ≤ 12) (N200 : N ≤ 200) (Ds : rs_D hc hr N s C n F) (h1 : a1.toInt = (s : Int)) (lo : (mx_lo (.inr (t, 34))).2 = 36) (hd : km_d a4 a5 d) : ∃ g', g224_64 a1 a2 a3 a4 a5 0 (f208 a1 hr) = f220 a2 a3 g' ∧ nt_N (f23 t s d hc) g' t C ∧ nt_V g' C ∧ rn_F hr g' := by
  obtain ⟨c1, c6, fn, d1, d2, d3, d4, d5, d6, d7, d8, d9, d10⟩ := id Ds
  have b109 := fun i => sf_rd (lo := 0) (hi := 9) (r := 321) I (.inl 109) i rfl (by decide)
  have b9 := sf_9 I
  obtain ⟨-, -, R1, R3, R4⟩ := nt_load (t := 0) I e1 hs s12 N200 Ds h1 rfl
  have R2 : rD (f208 a1 hr) (.inl 105) 35 = C := (nt_load (t := 0) I e1 hs s12 N200 Ds h1 rfl).1.2.2.1
  obtain ⟨g', E, L1, L2, L3, L4, L5, -⟩ := R224o (a2 := a2) (a3 := a3) (k := f208 a1 hr) (h := hr) hd h1 (show s ≤ 12 by omega) c6 (fun i v hi hv q => by
    rw [R4 i v hi hv]
    exact if_neg q) C 0 0 (g := f208 a1 hr) (by omega) rfl ⟨R1, R2, fun _ _ _ _ => rfl, fun i hi => absurd hi (Nat.not_lt_zero _), fun i v hi => absurd hi (Nat.not_lt_zero _), fun _ _ _ _ _ => rfl⟩
  have mass := fun i => km_mass (d := d) (x := hr.2.1 (.inl 107) (6 * s + i)) (w := hr.2.1 (.inl 109) (6 * s + i)) (b109 _).1 (b109 _).2
  have K0 : km_C d hc (k_f (mx_uI hc (.inr (t, 30)) 0 (hc.2.1 (.inr (s, 0)) 0)) (.inr (t, 34)) 36 0) t s C 0 := by
    refine ⟨⟨rfl, rfl, fun q i => rfl, fun s' o i q => ?_⟩, ?_, fun i hi => k_fs hi, fun i hi => absurd hi (Nat.not_lt_zero _)⟩
    · refine (if_neg (fun e => ?_)).trans (rI_a (fun e => ?_))
      · obtain ⟨e, -⟩ := e
        cases e
        exact q ⟨rfl, by decide, by decide⟩
      · cases e
        exact q ⟨rfl, by decide, by decide⟩
    · unfold rD
      rw [k_fo (by decide), rI_s]
      exact d1
  obtain ⟨g2, e2, K1, K2, K3, K4⟩ := C23ld c6 C 0 0 (by omega) rfl K0
  obtain ⟨P1, P2, P3⟩ := C23pd (t := t) (d := d) (show s ≤ 12 by omega) Ds N200 (g0 := g2) n 0 0 (g := g2) (by omega) rfl ⟨K1, fun _ _ _ => rfl, fun u v hu hv => by
    rw [K3 _ (by omega)]
    unfold km_L
    rw [if_neg (fun w => ?_)]
    rcases d8 u v hu hv with q | ⟨k, hk, q | q⟩
    · rw [show rD hr (.inl 113) (36 * s + 6 * u + v) = 0 from congrArg Int32.toInt q] at w
      omega
    · obtain ⟨p1, p2, p3, p4, p5, p6, -⟩ := q
      omega
    · obtain ⟨p1, p2, p3, p4, p5, p6, p7, -⟩ := q
      omega⟩
  have ec : f23 t s d hc = g23_80 t s d 0 g2 := by
    rw [f23_eq, k317 lo (by decide)]
    simp only [x_h]
    exact e2
  rw [ec]
  refine ⟨g', E, ⟨c6, ?_, L2, fun i hi => ?_, fun i j hi hj => ?_⟩, ⟨fun i hi => ⟨?_, ?_⟩, fun i j hi hj => ⟨?_, ?_⟩⟩, L1⟩
  · unfold rD
    rw [P2 30 0 (by decide)]
    exact K2
  · obtain ⟨r1, r2, r3⟩ := R3 i hi
    obtain ⟨q1, q2, q3⟩ := K4 i hi
    obtain ⟨z1, z2, z3, z4⟩ := d5 i hi
    unfold rD
    rw [P2 31 i (by decide), P2 32 i (by decide), P2 33 i (by decide), q1, q2, q3, L4 i hi, L3 _ _ (ne_l (by decide)) (ne_l (by decide)), L3 _ _ (ne_l (by decide)) (ne_l (by decide)), r2, r3, z1, z2, z3, z4]
    exact ⟨(mass i).1, (mass i).2, rfl, rfl⟩
  · rw [P3 i j (by omega) (by omega), L5 i j hi hj]
    unfold km_L km_l
    by_cases q : 0 < rD hr (.inl 113) (36 * s + 6 * i + j)
    · have z2 : rD hr (.inl 113) (36 * s + 6 * i + j) ≤ ((F + n : Nat) : Int) := by
        rcases d8 i j (by omega) (by omega) with w | ⟨k, hk, w | w⟩
        · have z : rD hr (.inl 113) (36 * s + 6 * i + j) = 0 := congrArg Int32.toInt w
          omega
        · obtain ⟨p1, p2, p3, p4, p5, p6, -⟩ := w
          omega
        · obtain ⟨p1, p2, p3, p4, p5, p6, p7, -⟩ := w
          omega
      rw [if_pos q, if_pos ⟨q, z2⟩]
    · rw [if_neg q, if_neg (fun w => q w.1)]
  · unfold rD
    rw [L3 _ _ (ne_l (by decide)) (ne_l (by decide)), (R3 i hi).2.1]
    exact sf_rd (lo := 0) (hi := 9) (r := 320) I (.inl 108) (6 * s + i) rfl (by decide)
  · unfold rD
    rw [L4 i hi]
    exact (mass i).2
  · unfold rD
    rw [L5 i j hi hj]
    unfold km_l
    by_cases q : 0 < rD hr (.inl 113) (36 * s + 6 * i + j)
    · rw [if_pos q]
      exact km_vb (b9 _).2.1
    · rw [if_neg q]
      exact ⟨by decide, by decide⟩
  · unfold rD
    rw [L5 i j hi hj, L5 j i hj hi]
    congr 1
    unfold km_l
    have fin : ∀ k u v, rs_k hc hr s C F k u v → 0 < rD hr (.inl 113) (36 * s + 6 * u + v) ∧ 0 < rD hr (.inl 113) (36 * s + 6 * v + u) ∧ hr.2.1 (.inl 111) (36 * s + 6 * u + v) = hr.2.1 (.inl 111) (36 * s + 6 * v + u) ∧ hr.2.1 (.inl 112) (36 * s + 6 * u + v) = hr.2.1 (.inl 112) (36 * s + 6 * v + u) := fun k u v w => by
      obtain ⟨o1, o2, o3, o4, o5, o6, o7, o8, o9, o10, o11, o12, o13⟩ := w
      exact ⟨by omega, by omega, o8.trans o9.symm, o10.trans o11.symm⟩
    have bk : ∀ u v, u < C → v < C → 0 < rD hr (.inl 113) (36 * s + 6 * u + v) → 0 < rD hr (.inl 113) (36 * s + 6 * v + u) ∧ hr.2.1 (.inl 111) (36 * s + 6 * u + v) = hr.2.1 (.inl 111) (36 * s + 6 * v + u) ∧ hr.2.1 (.inl 112) (36 * s + 6 * u + v) = hr.2.1 (.inl 112) (36 * s + 6 * v + u) := fun u v hu hv q => by
      rcases d8 u v (by omega) (by omega) with w | ⟨k, hk, w | w⟩
      · have z : rD hr (.inl 113) (36 * s + 6 * u + v) = 0 := congrArg Int32.toInt w
        omega
      · obtain ⟨y1, y2, y3, y4⟩ := fin _ _ _ w
        exact ⟨y2, y3, y4⟩
      · obtain ⟨y1, y2, y3, y4⟩ := fin _ _ _ w
        exact ⟨y1, y3.symm, y4.symm⟩
    by_cases q : 0 < rD hr (.inl 113) (36 * s + 6 * i + j)
    · obtain ⟨y1, y2, y3⟩ := bk i j hi hj q
      rw [if_pos q, if_pos y1, y2, y3]
    · rw [if_neg q, if_neg (fun w => q (bk j i hj hi w).1)]
theorem aw_bounds (I : sf_I hr) (A : rs_A hc hr S N) (st : mi_S hr b) (hb : b + 8 < 2147483647) : (f114 a1 a2 a3 a4 a5 hc).1 = (f224 a1 a2 a3 a4 a5 hr).1 := by
  obtain ⟨A1, A2, A3, A4, A5, A6, A7, A8, A9, A10⟩ := id A
  have K := f114_eq a1 a2 a3 a4 a5 hc
  have T := f224_eq a1 a2 a3 a4 a5 hr
  rcases C166 (a := a1) A with ⟨s, lt, h1, e1, e1'⟩ | ⟨e1, e1'⟩
  · obtain ⟨C, n, F, Ds⟩ := (A9 s lt).2
    rw [e1] at K
    simp only [x_opt] at K
    rw [if_neg (by rw [e1']; exact n10)] at T
    rcases ton_in (a2 := a2) (a3 := a3) (S := S) Ds (by omega) h1 with ⟨z1, z2, z3, z4, z5⟩ | ⟨z1, z2⟩
    · rw [if_neg (by rw [z1]; exact n10), w_ws, w_ws] at K
      rw [if_neg (by rw [z2]; exact n10), if_neg (by rw [z3]; exact n10)] at T
      by_cases c4 : f173 a4 0 8 = 0
      · rw [if_pos c4] at K T
        rw [K, T]
      · rw [if_neg c4] at K T
        by_cases c5 : f173 a5 0 1 ≠ 0
        · rw [if_pos c5] at K T
          by_cases w5 : a5 ≠ 0
          · rw [if_pos w5] at K
            obtain ⟨g', E, NN, V, R⟩ := nt_bound (t := 0) (a2 := a2) (a3 := a3) (a4 := a4) (a5 := a5) (d := a4) I A4 lt A1 A2 Ds h1 rfl (Or.inl ⟨w5, rfl⟩)
            simp only [x_h, x_let] at K T
            rw [E] at T
            rw [K, T]
            exact (TNe NN V (rn_Fs R st) hb rfl rfl z4 z5).1
          · rw [if_neg w5] at K
            obtain ⟨g', E, NN, V, R⟩ := nt_bound (t := 0) (a2 := a2) (a3 := a3) (a4 := a4) (a5 := a5) (d := -a4) I A4 lt A1 A2 Ds h1 rfl (Or.inr ⟨Decidable.not_not.mp w5, rfl⟩)
            simp only [x_h, x_let] at K T
            rw [E] at T
            rw [K, T]
            exact (TNe NN V (rn_Fs R st) hb rfl rfl z4 z5).1
        · rw [if_neg c5] at K T
          rw [K, T]
    · rw [if_pos z1] at K
      rcases z2 with z2 | z2
      · rw [if_pos z2] at T
        rw [K, T]
      · by_cases z3 : f173 a2 0 (f195 a1 hr - 1) = 0
        · rw [if_pos z3] at T
          rw [K, T]
        · rw [if_neg z3, if_pos z2] at T
          rw [K, T]
  · rw [e1] at K
    simp only [x_opt] at K
    rw [if_pos e1'] at T
    rw [K, T]
end MZ
