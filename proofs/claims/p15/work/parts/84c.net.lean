/-! ===== a net loaded alike ===== -/
section NT
variable {h g hc hr : mx_H} {S N s n C F t c k u v : Nat} {a1 a2 a3 x y w : Int32}
theorem nq {q : Nat} {P : Prop} (e : q ≠ 105) : ¬ (q = 105 ∧ P) := fun w => e w.1
def kn_F (h g : mx_H) (t : Nat) : Prop := g.1 = h.1 ∧ g.2.2 = h.2.2 ∧ (∀ q i, g.2.1 (.inl q) i = h.2.1 (.inl q) i) ∧ ∀ s o i, ¬ (s = t ∧ 30 ≤ o ∧ o ≤ 34) → g.2.1 (.inr (s, o)) i = h.2.1 (.inr (s, o)) i
theorem kn_F.refl : kn_F h h t := ⟨rfl, rfl, fun _ _ => rfl, fun _ _ _ _ => rfl⟩
theorem kn_F.fu {o i : Nat} (h1 : 30 ≤ o) (h2 : o ≤ 34) (F : kn_F h g t) : kn_F h (mx_uI g (.inr (t, o)) i x) t := ⟨F.1, F.2.1, fun q i' => (rI_a (fun e => by cases e)).trans (F.2.2.1 q i'), fun s o' i' q => (rI_a (fun e => by
  cases e
  exact q ⟨rfl, h1, h2⟩)).trans (F.2.2.2 s o' i' q)⟩
theorem i_s0 : x - 0 = x := by
  have b := i_b x
  exact i_eq (i_sub (x := x) rfl k_0 (by omega) (by omega)) rfl (by omega)
theorem w24 (h1 : 1 ≤ x.toInt) (h2 : x.toInt ≤ 9) : f24 x = x := by
  rw [f24_eq]
  by_cases c : x.toInt < 9
  · rw [if_pos (i_lt rfl k_9 c)]
    by_cases d : 1 < x.toInt
    · rw [if_pos (i_lt k_1 rfl d)]
    · rw [if_neg (i_nlt k_1 rfl (by omega))]
      exact i_eq k_1 rfl (by omega)
  · have e : x = 9 := i_eq rfl k_9 (by omega)
    subst e
    decide
/-- what a corner weighs in the class's net -/
noncomputable def kn_m (x w : Int32) : Int32 := if f24 (x - 0) + w < 9 then f24 (x - 0) + w else 9
theorem w_mass (h1 : 1 ≤ x.toInt) (h2 : x.toInt ≤ 9) (w1 : 0 ≤ w.toInt) (w2 : w.toInt ≤ 9) : kn_m x w = f207 x w ∧ 1 ≤ (f207 x w).toInt ∧ (f207 x w).toInt ≤ 9 := by
  unfold kn_m
  rw [i_s0, w24 h1 h2, f207_eq]
  have e := i_add (x := x) (y := w) rfl rfl (by omega) (by omega)
  by_cases c : x.toInt + w.toInt < 9
  · rw [if_pos (i_lt e k_9 c), if_pos (i_le e k_9 (by omega))]
    exact ⟨rfl, by rw [e]; omega, by rw [e]; omega⟩
  · rw [if_neg (i_nlt e k_9 (by omega))]
    by_cases d : x.toInt + w.toInt ≤ 9
    · rw [if_pos (i_le e k_9 d)]
      exact ⟨i_eq k_9 e (by omega), by rw [e]; omega, by rw [e]; omega⟩
    · rw [if_neg (i_nle e k_9 (by omega))]
      exact ⟨rfl, by decide, by decide⟩
noncomputable def kn_s (h : mx_H) (t s i : Nat) : mx_H := mx_uI (mx_uI (mx_uI h (.inr (t, 31)) i (kn_m (h.2.1 (.inr (s, 1)) i) (h.2.1 (.inr (s, 3)) i))) (.inr (t, 32)) i (h.2.1 (.inr (s, 2)) i)) (.inr (t, 33)) i (h.2.1 (.inr (s, 4)) i)
theorem C23c (hC : rD h (.inr (t, 30)) 0 = C) (ha : a3.toInt = (c : Int)) (lt : c < C) : g23_18 t s 0 a3 h = g23_18 t s 0 (a3 + 1) (kn_s h t s c) := by
  rw [g23_18_eq, if_neg (i_nle hC ha (by omega)), f25_eq, i_cl ha]
  simp only [x_h, rP (o := 2) (o' := 31) (by decide), rP (o := 4) (o' := 31) (by decide), rP (o := 4) (o' := 32) (by decide)]
  rfl
/-- c corners are weighed -/
def kn_C (h g : mx_H) (t s C c : Nat) : Prop := kn_F h g t ∧ rD g (.inr (t, 30)) 0 = C ∧ (∀ i, i < 36 → g.2.1 (.inr (t, 34)) i = 0) ∧ ∀ i, i < c → g.2.1 (.inr (t, 31)) i = kn_m (h.2.1 (.inr (s, 1)) i) (h.2.1 (.inr (s, 3)) i) ∧ g.2.1 (.inr (t, 32)) i = h.2.1 (.inr (s, 2)) i ∧ g.2.1 (.inr (t, 33)) i = h.2.1 (.inr (s, 4)) i
theorem C23l (C6 : C ≤ 6) : ∀ (j c : Nat) (a3 : Int32) {g : mx_H}, c + j = C → a3.toInt = (c : Int) → kn_C h g t s C c → ∃ g', g23_18 t s 0 a3 g = g23_80 t s 0 0 g' ∧ kn_C h g' t s C C
  | 0, c, a3, g, e, ha, K => by
    refine ⟨g, ?_, (show c = C by omega) ▸ K⟩
    rw [g23_18_eq, if_pos (i_le K.2.1 ha (by omega))]
  | j + 1, c, a3, g, e, ha, K => by
    obtain ⟨K1, K2, K3, K4⟩ := K
    rw [C23c K2 ha (by omega)]
    refine C23l C6 j (c + 1) (a3 + 1) (by omega) ((i_add ha k_1 (by omega) (by omega)).trans (by omega)) ⟨((K1.fu (by decide) (by decide)).fu (by decide) (by decide)).fu (by decide) (by decide), ?_, fun i hi => ?_, fun i hi => ?_⟩
    · unfold rD kn_s
      rw [rP (by decide), rP (by decide), rP (by decide)]
      exact K2
    · unfold kn_s
      rw [rP (by decide), rP (by decide), rP (by decide)]
      exact K3 i hi
    · unfold kn_s
      by_cases z : i = c
      · subst z
        refine ⟨?_, ?_, ?_⟩
        · rw [rP (by decide), rP (by decide), rI_s, K1.2.2.2 s 1 i (by omega), K1.2.2.2 s 3 i (by omega)]
        · rw [rP (by decide), rI_s, K1.2.2.2 s 2 i (by omega)]
        · rw [rI_s, K1.2.2.2 s 4 i (by omega)]
      · rw [rI_i z, rI_i z, rI_i z, rI_i z, rI_i z, rI_i z, rI_i z, rI_i z, rI_i z]
        exact K4 i (by omega)
/-- what the pieces before F + c give a pair -/
def kn_L (hr : mx_H) (s F c u v : Nat) : Int32 := if 0 < rD hr (.inl 113) (36 * s + 6 * u + v) ∧ rD hr (.inl 113) (36 * s + 6 * u + v) ≤ ((F + c : Nat) : Int) then hr.2.1 (.inl 111) (36 * s + 6 * u + v) - hr.2.1 (.inl 112) (36 * s + 6 * u + v) else 0
def kn_P (hc hr g0 g : mx_H) (t s F c : Nat) : Prop := kn_F hc g t ∧ (∀ o i, o ≠ 34 → g.2.1 (.inr (t, o)) i = g0.2.1 (.inr (t, o)) i) ∧ ∀ u v, u < 6 → v < 6 → g.2.1 (.inr (t, 34)) (6 * u + v) = kn_L hr s F c u v
theorem C23q (I : sf_I hr) (e1 : rD hr (.inl 105) 1 = S) (hs : s < S) (s12 : s ≤ 12) (C6 : C ≤ 6) (Q : rs_k hc hr s C F k u v) (hn : rD g (.inr (s, 0)) 6 = n) (hk : k < n) (ha : a3.toInt = (k : Int)) (KF : kn_F hc g t) : g23_80 t s 0 a3 g = g23_80 t s 0 (a3 + 1) (mx_uI (mx_uI g (.inr (t, 34)) (6 * min u v + max u v) (hc.2.1 (.inr (s, 7)) k - hc.2.1 (.inr (s, 8)) k)) (.inr (t, 34)) (6 * max u v + min u v) (hc.2.1 (.inr (s, 7)) k - hc.2.1 (.inr (s, 8)) k)) := by
  obtain ⟨o1, o2, o3, o4, o5, o6, o7, o8, o9, o10, o11, o12, o13⟩ := Q
  have s1 : 1 ≤ rD hr (.inl 111) (36 * s + 6 * u + v) := sf_k3 I e1 _ (by omega) (by rw [o6]; omega)
  have s9 := (sf_9 I (36 * s + 6 * u + v)).1.2
  rw [show rD hr (.inl 111) (36 * s + 6 * u + v) = rD hc (.inr (s, 7)) k from congrArg Int32.toInt o8] at s1
  rw [show rD hr (.inl 111) (36 * s + 6 * u + v) = rD hc (.inr (s, 7)) k from congrArg Int32.toInt o8] at s9
  have z1 := w6 o4 o5 (show min u v ≤ 12 by omega) (show max u v < 6 by omega)
  have z2 := w6 o5 o4 (show max u v ≤ 12 by omega) (show min u v < 6 by omega)
  rw [g23_80_eq, if_neg (i_nle hn ha (by omega)), i_cl ha, KF.2.2.2 s 7 k (by omega), KF.2.2.2 s 5 k (by omega), KF.2.2.2 s 6 k (by omega), KF.2.2.2 s 8 k (by omega), show hc.2.1 (.inr (s, 7)) k + 0 = hc.2.1 (.inr (s, 7)) k from Int32.add_zero _, w24 s1 s9]
  simp only [x_h, x_val]
  rw [if_neg (i_nlt rfl rfl o13), f26_eq, i_cl z1, i_cl z2]
theorem C23p (I : sf_I hr) (e1 : rD hr (.inl 105) 1 = S) (hs : s < S) (s12 : s ≤ 12) (N200 : N ≤ 200) (Ds : rs_D hc hr N s C n F) {g0 : mx_H} : ∀ (j c : Nat) (a3 : Int32) {g : mx_H}, c + j = n → a3.toInt = (c : Int) → kn_P hc hr g0 g t s F c → kn_P hc hr g0 (g23_80 t s 0 a3 g) t s F n
  | 0, c, a3, g, e, ha, K => by
    have hn : rD g (.inr (s, 0)) 6 = n := by
      unfold rD
      rw [K.1.2.2.2 s 0 6 (by omega)]
      exact Ds.2.2.2.2.2.1
    rw [g23_80_eq, if_pos (i_le hn ha (by omega))]
    exact (show c = n by omega) ▸ K
  | j + 1, c, a3, g, e, ha, K => by
    obtain ⟨K1, K2, K3⟩ := K
    obtain ⟨c1, c6, fn, d1, d2, d3, d4, d5, d6, d7, d8, d9, d10⟩ := id Ds
    have hn : rD g (.inr (s, 0)) 6 = n := by
      unfold rD
      rw [K1.2.2.2 s 0 6 (by omega)]
      exact d3
    obtain ⟨u, v, Q⟩ := d7 c (by omega)
    rw [C23q I e1 hs s12 c6 Q hn (by omega) ha K1]
    refine C23p I e1 hs s12 N200 Ds j (c + 1) (a3 + 1) (by omega) ((i_add ha k_1 (by omega) (by omega)).trans (by omega)) ⟨(K1.fu (by decide) (by decide)).fu (by decide) (by decide), fun o i ho => ?_, fun a b ha6 hb6 => ?_⟩
    · rw [rP ho, rP ho]
      exact K2 o i ho
    · obtain ⟨o1, o2, o3, o4, o5, o6, o7, o8, o9, o10, o11, o12, o13⟩ := id Q
      by_cases z : (a = u ∧ b = v) ∨ (a = v ∧ b = u)
      · have rd : ∀ w : Int32, (mx_uI (mx_uI g (.inr (t, 34)) (6 * min u v + max u v) w) (.inr (t, 34)) (6 * max u v + min u v) w).2.1 (.inr (t, 34)) (6 * a + b) = w := fun w => by
          by_cases q1 : 6 * a + b = 6 * max u v + min u v
          · rw [rI_c rfl q1]
          · rw [rI_i q1, rI_c rfl (by omega)]
        rw [rd]
        unfold kn_L
        rcases z with ⟨z1, z2⟩ | ⟨z1, z2⟩
        · rw [z1, z2, o6, if_pos ⟨by omega, by omega⟩, o8, o10]
        · rw [z1, z2, o7, if_pos ⟨by omega, by omega⟩, o9, o11]
      · rw [rI_i (by omega), rI_i (by omega), K3 a b ha6 hb6]
        have ne : ¬ rD hr (.inl 113) (36 * s + 6 * a + b) = ((F + c + 1 : Nat) : Int) := fun w => by
          rcases d8 a b ha6 hb6 with q | ⟨k, hk, q | q⟩
          · rw [show rD hr (.inl 113) (36 * s + 6 * a + b) = 0 from congrArg Int32.toInt q] at w
            omega
          · obtain ⟨p1, p2, p3, p4, p5, p6, -⟩ := q
            have ek : k = c := by omega
            subst ek
            omega
          · obtain ⟨p1, p2, p3, p4, p5, p6, p7, -⟩ := q
            have ek : k = c := by omega
            subst ek
            omega
        unfold kn_L
        by_cases q : 0 < rD hr (.inl 113) (36 * s + 6 * a + b) ∧ rD hr (.inl 113) (36 * s + 6 * a + b) ≤ ((F + c : Nat) : Int)
        · rw [if_pos q, if_pos ⟨q.1, by omega⟩]
        · rw [if_neg q, if_neg (fun w => q ⟨w.1, by omega⟩)]
/-! the reference's net -/
def rn_F (h g : mx_H) : Prop := g.1 = h.1 ∧ g.2.2 = h.2.2 ∧ (∀ q i, g.2.1 (.inr q) i = h.2.1 (.inr q) i) ∧ ∀ q i, ¬ (128 ≤ q ∧ q ≤ 131) → ¬ (q = 105 ∧ i = 35) → g.2.1 (.inl q) i = h.2.1 (.inl q) i
theorem rn_F.fu {p i : Nat} (h1 : 128 ≤ p) (h2 : p ≤ 131) (F : rn_F h g) : rn_F h (mx_uI g (.inl p) i x) := ⟨F.1, F.2.1, fun q i' => (rI_a (fun e => by cases e)).trans (F.2.2.1 q i'), fun q i' e1 e2 => (rI_a (fun e => by
  cases e
  exact e1 ⟨h1, h2⟩)).trans (F.2.2.2 q i' e1 e2)⟩
def rn_l (h : mx_H) (s u v : Nat) : Int32 := if 0 < rD h (.inl 113) (36 * s + 6 * u + v) then h.2.1 (.inl 111) (36 * s + 6 * u + v) - h.2.1 (.inl 112) (36 * s + 6 * u + v) else 0
theorem R208q (h1 : a1.toInt = (s : Int)) (h2 : a2.toInt = (u : Int)) (h3 : a3.toInt = (c : Int)) (s12 : s ≤ 12) (C6 : C ≤ 6) (u6 : u < C) (lt : c < C) (K : rn_F h g) (hC : rD g (.inl 105) 35 = C) : g208_87 a1 a2 a3 g = g208_87 a1 a2 (a3 + 1) (mx_uI g (.inl 131) (6 * u + c) (rn_l h s u c)) := by
  rw [g208_87_eq, if_neg (i_nle hC h3 (by omega)), f180_eq, i_cl (w179 h1 h2 h3 s12 (by omega) (by omega)), i_cl (w6 h2 h3 (by omega) (by omega)), K.2.2.2 113 _ (by omega) (by omega), K.2.2.2 111 _ (by omega) (by omega), K.2.2.2 112 _ (by omega) (by omega)]
  unfold rn_l
  by_cases p : 0 < rD h (.inl 113) (36 * s + 6 * u + c)
  · rw [if_pos p, if_neg (i_nle rfl k_0 p), if_neg n10]
  · rw [if_neg p, if_pos (i_le rfl k_0 (Int.not_lt.mp p)), if_pos rfl]
theorem R208i (h1 : a1.toInt = (s : Int)) (h2 : a2.toInt = (u : Int)) (s12 : s ≤ 12) (C6 : C ≤ 6) (u6 : u < C) : ∀ (j c : Nat) (a3 : Int32) {g : mx_H}, c + j = C → a3.toInt = (c : Int) → rn_F h g → rD g (.inl 105) 35 = C → ∃ g', g208_87 a1 a2 a3 g = g208_12 a1 (a2 + 1) g' ∧ rn_F h g' ∧ (∀ q i, q ≠ 131 → g'.2.1 (.inl q) i = g.2.1 (.inl q) i) ∧ (∀ i, ¬ (6 * u + c ≤ i ∧ i < 6 * u + C) → g'.2.1 (.inl 131) i = g.2.1 (.inl 131) i) ∧ ∀ v, c ≤ v → v < C → g'.2.1 (.inl 131) (6 * u + v) = rn_l h s u v
  | 0, c, a3, g, e, ha, K, hC => by
    refine ⟨g, ?_, K, fun _ _ _ => rfl, fun _ _ => rfl, fun v q1 q2 => by omega⟩
    rw [g208_87_eq, if_pos (i_le hC ha (by omega))]
  | j + 1, c, a3, g, e, ha, K, hC => by
    obtain ⟨g', e1, K', f1, f2, f3⟩ := R208i h1 h2 s12 C6 u6 j (c + 1) (a3 + 1) (g := mx_uI g (.inl 131) (6 * u + c) (rn_l h s u c)) (by omega) ((i_add ha k_1 (by omega) (by omega)).trans (by omega)) (K.fu (by decide) (by decide)) hC
    refine ⟨g', (R208q h1 h2 ha s12 C6 u6 (by omega) K hC).trans e1, K', fun q i hq => (f1 q i hq).trans (rI_a (fun w => hq (Sum.inl.inj w))), fun i hi => (f2 i (by omega)).trans (rI_i (by omega)), fun v q1 q2 => ?_⟩
    by_cases z : v = c
    · subst z
      rw [f2 _ (by omega)]
      exact rI_s
    · exact f3 v (by omega) q2
noncomputable def rn_s (h : mx_H) (s u : Nat) (g : mx_H) : mx_H := mx_uI (mx_uI (mx_uI g (.inl 128) u (f207 (h.2.1 (.inl 107) (6 * s + u)) (h.2.1 (.inl 109) (6 * s + u)))) (.inl 129) u (h.2.1 (.inl 108) (6 * s + u))) (.inl 130) u (h.2.1 (.inl 110) (6 * s + u))
theorem R208s (h1 : a1.toInt = (s : Int)) (h2 : a2.toInt = (u : Int)) (s12 : s ≤ 12) (C6 : C ≤ 6) (u6 : u < C) (K : rn_F h g) (hC : rD g (.inl 105) 35 = C) (hb : h.2.1 (.inl 110) (6 * s + u) = 0 ∨ h.2.1 (.inl 110) (6 * s + u) = 1) : g208_12 a1 a2 g = g208_87 a1 a2 0 (rn_s h s u g) := by
  rw [g208_12_eq, if_neg (i_nle hC h2 (by omega)), i_cl h2, i_cl (w6 h1 h2 s12 (by omega))]
  simp only [x_val, rN (k := 108) (k' := 128) (by decide), rN (k := 110) (k' := 128) (by decide), rN (k := 110) (k' := 129) (by decide)]
  rw [K.2.2.2 107 _ (by omega) (by omega), K.2.2.2 109 _ (by omega) (by omega), K.2.2.2 108 _ (by omega) (by omega), K.2.2.2 110 _ (by omega) (by omega), nar01 hb]
  rfl
def rn_C (h g : mx_H) (s C c : Nat) : Prop := rn_F h g ∧ rD g (.inl 105) 35 = C ∧ (∀ i, i < c → g.2.1 (.inl 128) i = f207 (h.2.1 (.inl 107) (6 * s + i)) (h.2.1 (.inl 109) (6 * s + i)) ∧ g.2.1 (.inl 129) i = h.2.1 (.inl 108) (6 * s + i) ∧ g.2.1 (.inl 130) i = h.2.1 (.inl 110) (6 * s + i)) ∧ ∀ i v, i < c → v < C → g.2.1 (.inl 131) (6 * i + v) = rn_l h s i v
theorem R208o (h1 : a1.toInt = (s : Int)) (s12 : s ≤ 12) (C6 : C ≤ 6) (hb : ∀ i, i < C → h.2.1 (.inl 110) (6 * s + i) = 0 ∨ h.2.1 (.inl 110) (6 * s + i) = 1) : ∀ (j c : Nat) (a2 : Int32) {g : mx_H}, c + j = C → a2.toInt = (c : Int) → rn_C h g s C c → rn_C h (g208_12 a1 a2 g) s C C
  | 0, c, a2, g, e, ha, K => by
    rw [g208_12_eq, if_pos (i_le K.2.1 ha (by omega))]
    exact (show c = C by omega) ▸ K
  | j + 1, c, a2, g, e, ha, K => by
    obtain ⟨K1, K2, K3, K4⟩ := K
    obtain ⟨g', e1, K', f1, f2, f3⟩ := R208i (h := h) h1 ha s12 C6 (show c < C by omega) C 0 0 (g := rn_s h s c g) (by omega) rfl (((K1.fu (by decide) (by decide)).fu (by decide) (by decide)).fu (by decide) (by decide)) K2
    rw [R208s h1 ha s12 C6 (by omega) K1 K2 (hb c (by omega)), e1]
    refine R208o h1 s12 C6 hb j (c + 1) (a2 + 1) (by omega) ((i_add ha k_1 (by omega) (by omega)).trans (by omega)) ⟨K', ?_, fun i hi => ?_, fun i v hi hv => ?_⟩
    · unfold rD
      rw [f1 105 35 (by decide)]
      exact K2
    · rw [f1 128 i (by decide), f1 129 i (by decide), f1 130 i (by decide)]
      unfold rn_s
      by_cases z : i = c
      · subst z
        refine ⟨?_, ?_, ?_⟩
        · rw [rN (by decide), rN (by decide), rI_s]
        · rw [rN (by decide), rI_s]
        · rw [rI_s]
      · rw [rI_i z, rI_i z, rI_i z, rI_i z, rI_i z, rI_i z, rI_i z, rI_i z, rI_i z]
        exact K3 i (by omega)
    · by_cases z : i = c
      · subst z
        exact f3 v (by omega) hv
      · rw [f2 _ (by omega)]
        unfold rn_s
        rw [rN (by decide), rN (by decide), rN (by decide)]
        exact K4 i v (by omega) hv
/-- both nets are alike: C corners -/
def nt_N (hc hr : mx_H) (t C : Nat) : Prop := C ≤ 6 ∧ rD hc (.inr (t, 30)) 0 = C ∧ rD hr (.inl 105) 35 = C ∧ (∀ i, i < C → hc.2.1 (.inr (t, 31)) i = hr.2.1 (.inl 128) i ∧ (1 ≤ rD hr (.inl 128) i ∧ rD hr (.inl 128) i ≤ 9) ∧ hc.2.1 (.inr (t, 32)) i = hr.2.1 (.inl 129) i ∧ hc.2.1 (.inr (t, 33)) i = hr.2.1 (.inl 130) i) ∧ ∀ i j, i < C → j < C → hc.2.1 (.inr (t, 34)) (6 * i + j) = hr.2.1 (.inl 131) (6 * i + j)
theorem nt_load (I : sf_I hr) (e1 : rD hr (.inl 105) 1 = S) (hs : s < S) (s12 : S ≤ 12) (N200 : N ≤ 200) (Ds : rs_D hc hr N s C n F) (h1 : a1.toInt = (s : Int)) (lo : (mx_lo (.inr (t, 34))).2 = 36) : nt_N (f22 t s hc) (f208 a1 hr) t C ∧ kn_F hc (f22 t s hc) t ∧ rn_F hr (f208 a1 hr) ∧ (∀ i, i < C → (f208 a1 hr).2.1 (.inl 128) i = f207 (hr.2.1 (.inl 107) (6 * s + i)) (hr.2.1 (.inl 109) (6 * s + i)) ∧ (f208 a1 hr).2.1 (.inl 129) i = hr.2.1 (.inl 108) (6 * s + i) ∧ (f208 a1 hr).2.1 (.inl 130) i = hr.2.1 (.inl 110) (6 * s + i)) ∧ ∀ i v, i < C → v < C → (f208 a1 hr).2.1 (.inl 131) (6 * i + v) = rn_l hr s i v := by
  obtain ⟨c1, c6, fn, d1, d2, d3, d4, d5, d6, d7, d8, d9, d10⟩ := id Ds
  have b107 := fun i => sf_rd (lo := 0) (hi := 9) (r := 319) I (.inl 107) i rfl (by decide)
  have b109 := fun i => sf_rd (lo := 0) (hi := 9) (r := 321) I (.inl 109) i rfl (by decide)
  rw [f22_eq, f23_eq, f208_eq, k317 lo (by decide)]
  simp only [x_h]
  have K0 : kn_C hc (k_f (mx_uI hc (.inr (t, 30)) 0 (hc.2.1 (.inr (s, 0)) 0)) (.inr (t, 34)) 36 0) t s C 0 := by
    refine ⟨⟨rfl, rfl, fun q i => rfl, fun s' o i q => ?_⟩, ?_, fun i hi => k_fs hi, fun i hi => absurd hi (Nat.not_lt_zero _)⟩
    · refine (if_neg (fun e => ?_)).trans (rI_a (fun e => ?_))
      · obtain ⟨e, -⟩ := e
        cases e
        exact q ⟨rfl, by decide, by decide⟩
      · cases e
        exact q ⟨rfl, by decide, by decide⟩
    · unfold rD
      rw [k_fo (by decide), rI_s]
      exact d1
  obtain ⟨g', e', K1, K2, K3, K4⟩ := C23l c6 C 0 0 (by omega) rfl K0
  rw [e']
  have KP := C23p (t := t) I e1 hs (by omega) N200 Ds (g0 := g') n 0 0 (g := g') (by omega) rfl ⟨K1, fun _ _ _ => rfl, fun u v hu hv => by
    rw [K3 _ (by omega)]
    unfold kn_L
    rw [if_neg (fun w => ?_)]
    rcases d8 u v hu hv with q | ⟨k, hk, q | q⟩
    · rw [show rD hr (.inl 113) (36 * s + 6 * u + v) = 0 from congrArg Int32.toInt q] at w
      omega
    · obtain ⟨p1, p2, p3, p4, p5, p6, -⟩ := q
      omega
    · obtain ⟨p1, p2, p3, p4, p5, p6, p7, -⟩ := q
      omega⟩
  have RC := R208o (h := hr) h1 (show s ≤ 12 by omega) c6 (fun i _ => sf_110 I _) C 0 0 (g := mx_uI hr (.inl 105) 35 (hr.2.1 (.inl 106) (Int32.toNatClampNeg a1))) (by omega) rfl ⟨⟨rfl, rfl, fun q i => rfl, fun q i e1 e2 => if_neg (fun e => e2 ⟨Sum.inl.inj e.1, e.2⟩)⟩, by
    unfold rD
    rw [rI_s, i_cl h1]
    exact d2, fun i hi => absurd hi (Nat.not_lt_zero _), fun i v hi _ => absurd hi (Nat.not_lt_zero _)⟩
  obtain ⟨P1, P2, P3⟩ := KP
  obtain ⟨R1, R2, R3, R4⟩ := RC
  refine ⟨⟨c6, ?_, R2, fun i hi => ?_, fun i j hi hj => ?_⟩, P1, R1, R3, R4⟩
  · unfold rD
    rw [P2 30 0 (by decide)]
    exact K2
  · obtain ⟨r1, r2, r3⟩ := R3 i hi
    obtain ⟨q1, q2, q3⟩ := K4 i hi
    obtain ⟨z1, z2, z3, z4⟩ := d5 i hi
    have m := w_mass (x := hr.2.1 (.inl 107) (6 * s + i)) (w := hr.2.1 (.inl 109) (6 * s + i)) (sf_k2 I e1 s i hs (by rw [d2]; omega)) (b107 _).2 (b109 _).1 (b109 _).2
    unfold rD
    rw [P2 31 i (by decide), P2 32 i (by decide), P2 33 i (by decide), q1, q2, q3, r1, r2, r3, z1, z2, z3, z4]
    exact ⟨m.1, ⟨m.2.1, m.2.2⟩, rfl, rfl⟩
  · rw [P3 i j (by omega) (by omega), R4 i j hi hj]
    unfold kn_L rn_l
    by_cases q : 0 < rD hr (.inl 113) (36 * s + 6 * i + j)
    · have z2 : rD hr (.inl 113) (36 * s + 6 * i + j) ≤ ((F + n : Nat) : Int) := by
        rcases d8 i j (by omega) (by omega) with w | ⟨k, hk, w | w⟩
        · have z : rD hr (.inl 113) (36 * s + 6 * i + j) = 0 := congrArg Int32.toInt w
          omega
        · obtain ⟨p1, p2, p3, p4, p5, p6, -⟩ := w
          omega
        · obtain ⟨p1, p2, p3, p4, p5, p6, p7, -⟩ := w
          omega
      rw [if_pos q, if_pos ⟨q, z2⟩]
    · rw [if_neg q, if_neg (fun w => q w.1)]
end NT
