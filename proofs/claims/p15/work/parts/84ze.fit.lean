/-! ===== 84ye: CRACKS that FIT: one try ===== -/
section MYE
variable {h g hc hr k gc gr : mx_H} {C n F s c b m i t u v u' v' p p' M : Nat} {a1 a2 a3 a4 a5 a6 x y : Int32} {q : Int} {B : mx_A}
theorem r2w : (mx_uI (mx_uI g B p x) B p' x).2.1 B i = if i = p' ∨ i = p then x else g.2.1 B i := by
  by_cases e : i = p'
  · rw [rI_c rfl e, if_pos (Or.inl e)]
  · by_cases e2 : i = p
    · rw [rI_i e, rI_c rfl e2, if_pos (Or.inr e2)]
    · rw [rI_i e, rI_i e2, if_neg (fun w => w.elim e e2)]
/-- linked alike -/
theorem nt_lk (N : nt_N hc k t C) (V : nt_V k C) (x0 : 0 ≤ x.toInt) (x9 : x.toInt ≤ 9) (hu : u < C) (hv : v < C) (w : (u' = u ∧ v' = v) ∨ (u' = v ∧ v' = u)) : nt_N (mx_uI (mx_uI hc (.inr (t, 34)) (6 * u' + v') x) (.inr (t, 34)) (6 * v' + u') x) (mx_uI (mx_uI k (.inl 131) (6 * u + v) x) (.inl 131) (6 * v + u) x) t C ∧ nt_V (mx_uI (mx_uI k (.inl 131) (6 * u + v) x) (.inl 131) (6 * v + u) x) C := by
  obtain ⟨n1, n2, n3, n4, n5⟩ := N
  have kx : ∀ y i, y ≠ 131 → (mx_uI (mx_uI k (.inl 131) (6 * u + v) x) (.inl 131) (6 * v + u) x).2.1 (.inl y) i = k.2.1 (.inl y) i := fun y i hy => (rI_a (ne_l hy)).trans (rI_a (ne_l hy))
  have cx : ∀ o i, o ≠ 34 → (mx_uI (mx_uI hc (.inr (t, 34)) (6 * u' + v') x) (.inr (t, 34)) (6 * v' + u') x).2.1 (.inr (t, o)) i = hc.2.1 (.inr (t, o)) i := fun o i ho => (rI_a (ne_o ho)).trans (rI_a (ne_o ho))
  refine ⟨⟨n1, ?_, ?_, fun i hi => ?_, fun i j hi hj => ?_⟩, fun i hi => ?_, fun i j hi hj => ?_⟩
  · unfold rD
    rw [cx 30 0 (by decide)]
    exact n2
  · unfold rD
    rw [kx 105 35 (by decide)]
    exact n3
  · unfold rD
    rw [cx 31 i (by decide), cx 32 i (by decide), cx 33 i (by decide), kx 128 i (by decide), kx 129 i (by decide), kx 130 i (by decide)]
    exact n4 i hi
  · rw [r2w, r2w]
    by_cases z : 6 * i + j = 6 * v + u ∨ 6 * i + j = 6 * u + v
    · rw [if_pos z, if_pos (by omega)]
    · rw [if_neg z, if_neg (by omega)]
      exact n5 i j hi hj
  · unfold rD
    rw [kx 129 i (by decide), kx 128 i (by decide)]
    exact V.1 i hi
  · unfold rD
    rw [r2w, r2w]
    by_cases z : 6 * i + j = 6 * v + u ∨ 6 * i + j = 6 * u + v
    · rw [if_pos z, if_pos (by omega)]
      exact ⟨⟨x0, x9⟩, rfl⟩
    · rw [if_neg z, if_neg (by omega)]
      exact V.2 i j hi hj
/-! the class's try -/
def fc_F (h g : mx_H) : Prop := nl_G h g ∧ (∀ x i, x ≠ 68 → x ≠ 70 → g.2.1 (.inl x) i = h.2.1 (.inl x) i) ∧ g.2.1 (.inl 68) 0 = h.2.1 (.inl 68) 0
theorem fc_F.refl : fc_F h h := ⟨nl_G.refl, fun _ _ _ _ => rfl, rfl⟩
theorem fc_F.trans (A : fc_F h g) (B : fc_F g k) : fc_F h k := ⟨A.1.trans B.1, fun x i h1 h2 => (B.2.1 x i h1 h2).trans (A.2.1 x i h1 h2), B.2.2.trans A.2.2⟩
theorem cm_l (F : cm_F h g t) {x i : Nat} : g.2.1 (.inl x) i = h.2.1 (.inl x) i := F.1 _ _ (fun e => by cases e) (fun e => by cases e.1)
theorem cm_fc (F : cm_F h g t) : fc_F h g := ⟨cm_G F, fun _ _ _ _ => cm_l F, cm_l F⟩
/-- what was heard fits the net -/
def ft_f (k : mx_H) (C : Nat) (q : Int) (w : Nat → Int32) (t : Nat) : Prop := ∀ i, i < t → nI (zt (fb k C q) i) = w i
theorem T3 (V : nt_V k C) (h2 : a2.toInt = q) (q1 : 1 ≤ q) (q9 : q ≤ 9) (t6 : t ≤ 6) : ∀ (j i : Nat) {g : mx_H}, i + j = t → rD g (.inl 68) 0 = t → nt_N g k 0 C → (∃ g', cm_F g g' 0 ∧ nt_N g' k 0 C ∧ g14_3 0 a2 a3 a4 a5 (nI i) g = g14_3 0 a2 a3 a4 a5 (nI t) g' ∧ ∀ i', i ≤ i' → i' < t → nI (zt (fb k C q) i') = g.2.1 (.inl 69) i') ∨ ∃ g', cm_F g g' 0 ∧ nt_N g' k 0 C ∧ g14_3 0 a2 a3 a4 a5 (nI i) g = g' ∧ ∃ i', i ≤ i' ∧ i' < t ∧ ¬ nI (zt (fb k C q) i') = g.2.1 (.inl 69) i'
  | 0, i, g, e, ht, N => Or.inl ⟨g, cm_F.refl, N, by rw [show i = t by omega], fun i' l1 l2 => by omega⟩
  | j + 1, i, g, e, ht, N => by
    obtain ⟨f1, F1⟩ := TTc (i := i) (a1 := nI i) (a2 := a2) N V (nI_toInt (n := i) (by omega)) h2 q1 q9
    have N1 := nt_cm N F1
    have st : g14_3 0 a2 a3 a4 a5 (nI i) g = (if (nI (zt (fb k C q) i)) = g.2.1 (.inl 69) i then g14_3 0 a2 a3 a4 a5 (nI (i + 1)) (f33 0 (nI i) a2 g).2 else (f33 0 (nI i) a2 g).2) := by
      rw [g14_3_eq, if_neg (i_nle ht (nI_toInt (n := i) (by omega)) (by omega))]
      simp only [x_let]
      rw [f1, nI_cl (by omega), cm_l F1, nI_s]
    by_cases z : nI (zt (fb k C q) i) = g.2.1 (.inl 69) i
    · rw [if_pos z] at st
      rcases T3 V h2 q1 q9 t6 j (i + 1) (g := (f33 0 (nI i) a2 g).2) (by omega) ((congrArg Int32.toInt (cm_l F1)).trans ht) N1 with ⟨g', w1, w2, w3, w4⟩ | ⟨g', w1, w2, w3, i', w4, w5, w6⟩
      · refine Or.inl ⟨g', F1.trans w1, w2, st.trans w3, fun i' l1 l2 => ?_⟩
        by_cases ie : i' = i
        · rw [ie]
          exact z
        · exact (w4 i' (by omega) l2).trans (cm_l F1)
      · exact Or.inr ⟨g', F1.trans w1, w2, st.trans w3, i', by omega, w5, fun w => w6 (w.trans (cm_l F1).symm)⟩
    · rw [if_neg z] at st
      exact Or.inr ⟨_, F1, N1, st, i, Nat.le_refl _, by omega, z⟩
theorem T71 (V : nt_V k C) (h2 : a2.toInt = q) (q1 : 1 ≤ q) (q9 : q ≤ 9) (m6 : m ≤ 6) : ∀ (j i : Nat) {g : mx_H}, i + j = m → nt_N g k 0 C → ∃ g', g14_71 0 a2 (nI m) (nI i) g = g' ∧ nt_N g' k 0 C ∧ nl_G g g' ∧ ∀ x i', x ≠ 70 → g'.2.1 (.inl x) i' = g.2.1 (.inl x) i'
  | 0, i, g, e, N => by
    refine ⟨g, ?_, N, nl_G.refl, fun _ _ _ => rfl⟩
    rw [g14_71_eq, if_pos (i_le (nI_toInt (n := m) (by omega)) (nI_toInt (n := i) (by omega)) (by omega))]
  | j + 1, i, g, e, N => by
    obtain ⟨f1, F1⟩ := TTc (i := i) (a1 := nI i) (a2 := a2) N V (nI_toInt (n := i) (by omega)) h2 q1 q9
    rw [g14_71_eq, if_neg (i_nle (nI_toInt (n := m) (by omega)) (nI_toInt (n := i) (by omega)) (by omega))]
    simp only [x_let]
    rw [nI_s]
    generalize (((f33 0 (nI i) a2 g).2.2.1 (.inl 70) (Int32.toNatClampNeg ((100 * nI i) + (f33 0 (nI i) a2 g).1))) + 1) = X
    generalize Int32.toNatClampNeg ((100 * nI i) + (f33 0 (nI i) a2 g).1) = Y
    obtain ⟨g', w1, w2, w3, w4⟩ := T71 V h2 q1 q9 m6 j (i + 1) (g := mx_uI (f33 0 (nI i) a2 g).2 (.inl 70) Y X) (by omega) (nt_rd (nt_cm N F1) (fun o i' _ _ _ => rI_a (fun e => by cases e)))
    refine ⟨g', w1, w2, ⟨fun s o i' ho => (w3.1 s o i' ho).trans ((rI_a (fun e => by cases e)).trans (cm_s F1 (by omega))), w3.2.trans F1.2.2⟩, fun x i' hx => (w4 x i' hx).trans ((rI_a (ne_l hx)).trans (cm_l F1))⟩
/-- counted -/
def ft_1 (g g' : mx_H) (a4 a5 : Int32) : Prop := g'.2.1 (.inl 68) 2 = g.2.1 (.inl 68) 2 + 1 ∧ (g.2.1 (.inl 68) 2 = 0 → g'.2.1 (.inl 68) 3 = a4 ∧ g'.2.1 (.inl 68) 4 = a5) ∧ (¬ g.2.1 (.inl 68) 2 = 0 → g'.2.1 (.inl 68) 3 = g.2.1 (.inl 68) 3 ∧ g'.2.1 (.inl 68) 4 = g.2.1 (.inl 68) 4)
theorem T14 (V : nt_V k C) (h2 : a2.toInt = q) (q1 : 1 ≤ q) (q9 : q ≤ 9) (m6 : m ≤ 6) (tm : t ≤ m) (ht : rD g (.inl 68) 0 = t) (N : nt_N g k 0 C) : fc_F g (f14 0 a2 (nI m) a4 a5 g) ∧ nt_N (f14 0 a2 (nI m) a4 a5 g) k 0 C ∧ ((ft_f k C q (g.2.1 (.inl 69)) t ∧ ft_1 g (f14 0 a2 (nI m) a4 a5 g) a4 a5) ∨ (¬ ft_f k C q (g.2.1 (.inl 69)) t ∧ ∀ i, (f14 0 a2 (nI m) a4 a5 g).2.1 (.inl 68) i = g.2.1 (.inl 68) i)) := by
  have e0 : f14 0 a2 (nI m) a4 a5 g = g14_3 0 a2 (nI m) a4 a5 (nI 0) g := by rw [f14_eq]; rfl
  rcases T3 (a3 := nI m) (a4 := a4) (a5 := a5) V h2 q1 q9 (show t ≤ 6 by omega) t 0 (g := g) (by omega) ht N with ⟨g', w1, w2, w3, w4⟩ | ⟨g', w1, w2, w3, i', w4, w5, w6⟩
  · have t' : rD g' (.inl 68) 0 = t := (congrArg Int32.toInt (cm_l w1)).trans ht
    have tn : g'.2.1 (.inl 68) 0 = nI t := i_eq t' (nI_toInt (n := t) (by omega)) rfl
    have c2 : g'.2.1 (.inl 68) 2 = g.2.1 (.inl 68) 2 := cm_l w1
    rw [e0, w3, g14_3_eq, if_pos (i_le t' (nI_toInt (n := t) (by omega)) (Int.le_refl _))]
    have fit : ft_f k C q (g.2.1 (.inl 69)) t := fun i hi => w4 i (Nat.zero_le _) hi
    by_cases z : g'.2.1 (.inl 68) 2 ≠ 0
    · rw [if_pos z, rI_i (by decide), tn]
      obtain ⟨g2, v1, v2, v3, v4⟩ := T71 V h2 q1 q9 m6 (m - t) t (g := mx_uI g' (.inl 68) 2 (g'.2.1 (.inl 68) 2 + 1)) (by omega) (nt_rd w2 (fun o i' _ _ _ => rI_a (fun e => by cases e)))
      rw [v1]
      refine ⟨⟨⟨fun s o i ho => (v3.1 s o i ho).trans ((rI_a (fun e => by cases e)).trans (cm_s w1 (by omega))), v3.2.trans w1.2.2⟩, fun x i h1 h2 => (v4 x i h2).trans ((rI_a (ne_l h1)).trans (cm_l w1)), (v4 68 0 (by decide)).trans ((rI_i (by decide)).trans (cm_l w1))⟩, v2, Or.inl ⟨fit, ?_, fun y => absurd (c2.trans y) z, fun _ => ⟨?_, ?_⟩⟩⟩
      · rw [v4 68 2 (by decide), rI_s, c2]
      · rw [v4 68 3 (by decide), rI_i (by decide)]
        exact cm_l w1
      · rw [v4 68 4 (by decide), rI_i (by decide)]
        exact cm_l w1
    · have z0 : g'.2.1 (.inl 68) 2 = 0 := Decidable.not_not.mp z
      rw [if_neg z, rI_i (by decide), rI_i (by decide), rI_i (by decide), rI_i (by decide), rI_i (by decide), tn]
      obtain ⟨g2, v1, v2, v3, v4⟩ := T71 V h2 q1 q9 m6 (m - t) t (g := mx_uI (mx_uI (mx_uI g' (.inl 68) 3 a4) (.inl 68) 4 a5) (.inl 68) 2 (g'.2.1 (.inl 68) 2 + 1)) (by omega) (nt_rd w2 (fun o i' _ _ _ => (rI_a (fun e => by cases e)).trans ((rI_a (fun e => by cases e)).trans (rI_a (fun e => by cases e)))))
      rw [v1]
      refine ⟨⟨⟨fun s o i ho => (v3.1 s o i ho).trans ((rI_a (fun e => by cases e)).trans ((rI_a (fun e => by cases e)).trans ((rI_a (fun e => by cases e)).trans (cm_s w1 (by omega))))), v3.2.trans w1.2.2⟩, fun x i h1 h2 => (v4 x i h2).trans ((rI_a (ne_l h1)).trans ((rI_a (ne_l h1)).trans ((rI_a (ne_l h1)).trans (cm_l w1)))), (v4 68 0 (by decide)).trans ((rI_i (by decide)).trans ((rI_i (by decide)).trans ((rI_i (by decide)).trans (cm_l w1))))⟩, v2, Or.inl ⟨fit, ?_, fun _ => ⟨?_, ?_⟩, fun y => absurd (c2.symm.trans z0) y⟩⟩
      · rw [v4 68 2 (by decide), rI_s, c2]
      · rw [v4 68 3 (by decide), rI_i (by decide), rI_i (by decide), rI_s]
      · rw [v4 68 4 (by decide), rI_i (by decide), rI_s]
  · rw [e0, w3]
    exact ⟨cm_fc w1, w2, Or.inr ⟨fun f => w6 (f i' w5), fun i => cm_l w1⟩⟩
/-! the reference's try -/
def fr_F (h g : mx_H) : Prop := (∀ x i, x ≠ 134 → x ≠ 136 → x ≠ 137 → x ≠ 148 → x ≠ 105 → g.2.1 (.inl x) i = h.2.1 (.inl x) i) ∧ ∀ i, i ≠ 37 → i ≠ 42 → i ≠ 67 → i ≠ 68 → i ≠ 69 → g.2.1 (.inl 105) i = h.2.1 (.inl 105) i
theorem fr_F.refl : fr_F h h := ⟨fun _ _ _ _ _ _ _ => rfl, fun _ _ _ _ _ _ => rfl⟩
theorem fr_F.trans (A : fr_F h g) (B : fr_F g k) : fr_F h k := ⟨fun x i h1 h2 h3 h4 h5 => (B.1 x i h1 h2 h3 h4 h5).trans (A.1 x i h1 h2 h3 h4 h5), fun i h1 h2 h3 h4 h5 => (B.2 i h1 h2 h3 h4 h5).trans (A.2 i h1 h2 h3 h4 h5)⟩
theorem tw_fr (F : tw_F h g) : fr_F h g := ⟨fun x i h1 h2 h3 _ h5 => F _ _ (ne_l h1) (ne_l h2) (ne_l h3) (fun e => absurd e.1 (ne_l h5)), fun i h1 h2 _ _ _ => F _ _ (ne_l (by decide)) (ne_l (by decide)) (ne_l (by decide)) (fun e => by omega)⟩
theorem fr_Q (F : fr_F h g) : nt_Q h g := fun x i h1 h2 => F.1 x i (by omega) (by omega) (by omega) (by omega) (by omega)
theorem fr_C (F : fr_F h g) : rD g (.inl 105) 35 = rD h (.inl 105) 35 := congrArg Int32.toInt (F.2 35 (by decide) (by decide) (by decide) (by decide) (by decide))
theorem fr_f (F : fr_F h g) : nl_F h g := fun x i h1 h2 => F.1 x i (by omega) (by omega) (by omega) (by omega) (by omega)
theorem nt_fr (N : nt_N hc k t C) (F : fr_F k g) : nt_N hc g t C := by
  have Q := fr_Q F
  obtain ⟨n1, n2, n3, n4, n5⟩ := N
  refine ⟨n1, n2, (fr_C F).trans n3, fun i hi => ?_, fun i j hi hj => ?_⟩
  · unfold rD
    rw [Q 128 _ (by decide) (by decide), Q 129 _ (by decide) (by decide), Q 130 _ (by decide) (by decide)]
    exact n4 i hi
  · rw [Q 131 _ (by decide) (by decide)]
    exact n5 i j hi hj
/-- what the loops keep: the net of k0, what was told, the tones -/
def ft_K (k0 g : mx_H) (a1 : Int32) (m t b : Nat) (f : Nat → Nat) : Prop := fr_F k0 g ∧ mi_S g b ∧ zm7 f g ∧ rD g (.inl 105) 65 = t ∧ f195 a1 g = nI m
theorem U7 (hC : rD k (.inl 105) 35 = C) (C6 : C ≤ 6) (V : nt_V k C) (h2 : a2.toInt = q) (q1 : 1 ≤ q) (q9 : q ≤ 9) (t6 : t ≤ 6) (hb : b + 200 < 2147483647) (f95 : ∀ g, fr_F k g → f195 a1 g = nI m) : ∀ (j i : Nat) {g : mx_H}, i + j = t → ft_K k g a1 m t (b + 7 * i) (fb k C q) → tw_F k g → (∃ g', tw_F k g' ∧ ft_K k g' a1 m t (b + 42) (fb k C q) ∧ g250_7 a1 a2 a3 a4 (nI i) g = g250_7 a1 a2 a3 a4 (nI t) g' ∧ ∀ i', i ≤ i' → i' < t → nI (zt (fb k C q) i') = k.2.1 (.inl 147) i') ∨ ∃ g', tw_F k g' ∧ ft_K k g' a1 m t (b + 42) (fb k C q) ∧ g250_7 a1 a2 a3 a4 (nI i) g = g' ∧ ∃ i', i ≤ i' ∧ i' < t ∧ ¬ nI (zt (fb k C q) i') = k.2.1 (.inl 147) i'
  | 0, i, g, e, K, W => Or.inl ⟨g, W, ⟨K.1, K.2.1.up (by omega), K.2.2⟩, by rw [show i = t by omega], fun i' l1 l2 => by omega⟩
  | j + 1, i, g, e, K, W => by
    obtain ⟨K1, K2, K3, K4, K5⟩ := K
    have Q := tw_Q W
    obtain ⟨y1, y2, y3, y4⟩ := TTr (i := i) (a1 := nI i) (a2 := a2) ((tw_C W).trans hC) C6 (nt_QV Q V) K2 (by omega) (nI_toInt (n := i) (by omega)) h2 q1 q9 (by
      rw [nt_Qb Q]
      exact K3)
    rw [nt_Qb Q] at y1 y4
    have W' := W.trans y2
    have r147 : (f219 (nI i) a2 g).2.2.1 (.inl 147) i = k.2.1 (.inl 147) i := W' _ _ (ne_l (by decide)) (ne_l (by decide)) (ne_l (by decide)) (fun e => absurd e.1 (ne_l (by decide)))
    have r65 : ∀ g' : mx_H, tw_F k g' → rD g' (.inl 105) 65 = rD k (.inl 105) 65 := fun g' w => congrArg Int32.toInt (w _ _ (ne_l (by decide)) (ne_l (by decide)) (ne_l (by decide)) (fun e => by omega))
    have K4' : rD (f219 (nI i) a2 g).2 (.inl 105) 65 = t := (r65 _ W').trans ((r65 _ W).symm.trans K4)
    have st : g250_7 a1 a2 a3 a4 (nI i) g = (if nI (zt (fb k C q) i) = k.2.1 (.inl 147) i then g250_7 a1 a2 a3 a4 (nI (i + 1)) (f219 (nI i) a2 g).2 else (f219 (nI i) a2 g).2) := by
      rw [g250_7_eq, if_neg (i_nle K4 (nI_toInt (n := i) (by omega)) (by omega))]
      simp only [x_let]
      rw [y1, nI_cl (by omega), r147, nI_s]
    have KK : ft_K k (f219 (nI i) a2 g).2 a1 m t (b + 7 * (i + 1)) (fb k C q) := ⟨tw_fr W', y3.up (by omega), y4, K4', f95 _ (tw_fr W')⟩
    by_cases z : nI (zt (fb k C q) i) = k.2.1 (.inl 147) i
    · rw [if_pos z] at st
      rcases U7 hC C6 V h2 q1 q9 t6 hb f95 j (i + 1) (g := (f219 (nI i) a2 g).2) (by omega) KK W' with ⟨g', w1, w2, w3, w4⟩ | ⟨g', w1, w2, w3, i', w4, w5, w6⟩
      · refine Or.inl ⟨g', w1, w2, st.trans w3, fun i' l1 l2 => ?_⟩
        by_cases ie : i' = i
        · rw [ie]
          exact z
        · exact w4 i' (by omega) l2
      · exact Or.inr ⟨g', w1, w2, st.trans w3, i', by omega, w5, w6⟩
    · rw [if_neg z] at st
      exact Or.inr ⟨_, W', ⟨KK.1, KK.2.1.up (by omega), KK.2.2⟩, st, i, Nat.le_refl _, by omega, z⟩
theorem U75 (hC : rD k (.inl 105) 35 = C) (C6 : C ≤ 6) (V : nt_V k C) (h2 : a2.toInt = q) (q1 : 1 ≤ q) (q9 : q ≤ 9) (m6 : m ≤ 6) (hb : M + 200 < 2147483647) (f95 : ∀ g, fr_F k g → f195 a1 g = nI m) : ∀ (j i : Nat) {g : mx_H}, i + j = m → fr_F k g → mi_S g (M + 7 * i) → zm7 (fb k C q) g → ∃ g', g250_75 a1 a2 (nI i) g = g' ∧ fr_F k g' ∧ mi_S g' (M + 42) ∧ ∀ i', i' = 67 ∨ i' = 68 ∨ i' = 69 → g'.2.1 (.inl 105) i' = g.2.1 (.inl 105) i'
  | 0, i, g, e, K, st, M7 => by
    refine ⟨g, ?_, K, st.up (by omega), fun _ _ => rfl⟩
    rw [g250_75_eq, f95 g K, if_pos (i_le (nI_toInt (n := m) (by omega)) (nI_toInt (n := i) (by omega)) (by omega))]
  | j + 1, i, g, e, K, st, M7 => by
    have Q := fr_Q K
    obtain ⟨y1, y2, y3, y4⟩ := TTr (i := i) (a1 := nI i) (a2 := a2) ((fr_C K).trans hC) C6 (nt_QV Q V) st (by omega) (nI_toInt (n := i) (by omega)) h2 q1 q9 (by
      rw [nt_Qb Q]
      exact M7)
    rw [nt_Qb Q] at y4
    rw [g250_75_eq, f95 g K, if_neg (i_nle (nI_toInt (n := m) (by omega)) (nI_toInt (n := i) (by omega)) (by omega))]
    simp only [x_let]
    rw [nI_s]
    generalize (((f219 (nI i) a2 g).2.2.1 (.inl 148) (Int32.toNatClampNeg ((100 * nI i) + (f219 (nI i) a2 g).1))) + 1) = X
    generalize Int32.toNatClampNeg ((100 * nI i) + (f219 (nI i) a2 g).1) = Y
    have K' := K.trans (tw_fr y2)
    obtain ⟨g', w1, w2, w3, w4⟩ := U75 hC C6 V h2 q1 q9 m6 hb f95 j (i + 1) (g := mx_uI (f219 (nI i) a2 g).2 (.inl 148) Y X) (by omega) ⟨fun x i' h1 h2 h3 h4 h5 => (rI_a (ne_l h4)).trans (K'.1 x i' h1 h2 h3 h4 h5), fun i' h1 h2 h3 h4 h5 => (rI_a (ne_l (by decide))).trans (K'.2 i' h1 h2 h3 h4 h5)⟩ (mi_Sf (fun i => rI_a (ne_l (by decide))) (rI_a (ne_l (by decide))) (y3.up (by omega))) (fun p hp => by
      rw [rI_a (ne_l (by decide))]
      exact y4 p hp)
    exact ⟨g', w1, w2, w3, fun i' hi => (w4 i' hi).trans ((rI_a (ne_l (by decide))).trans (y2 _ _ (ne_l (by decide)) (ne_l (by decide)) (ne_l (by decide)) (fun e => by omega)))⟩
def ft_2 (g g' : mx_H) (a4 a5 : Int32) : Prop := g'.2.1 (.inl 105) 67 = g.2.1 (.inl 105) 67 + 1 ∧ (g.2.1 (.inl 105) 67 + 1 = 1 → g'.2.1 (.inl 105) 68 = a4 ∧ g'.2.1 (.inl 105) 69 = a5) ∧ (¬ g.2.1 (.inl 105) 67 + 1 = 1 → g'.2.1 (.inl 105) 68 = g.2.1 (.inl 105) 68 ∧ g'.2.1 (.inl 105) 69 = g.2.1 (.inl 105) 69)
theorem T250 (hC : rD k (.inl 105) 35 = C) (C6 : C ≤ 6) (V : nt_V k C) (st : mi_S k b) (hb : b + 400 < 2147483647) (h2 : a2.toInt = q) (q1 : 1 ≤ q) (q9 : q ≤ 9) (m6 : m ≤ 6) (tm : t ≤ m) (ht : rD k (.inl 105) 65 = t) (f95 : ∀ g, fr_F k g → f195 a1 g = nI m) : fr_F k (f250 a1 a2 a3 a4 k) ∧ mi_S (f250 a1 a2 a3 a4 k) (b + 84) ∧ ((ft_f k C q (k.2.1 (.inl 147)) t ∧ ft_2 k (f250 a1 a2 a3 a4 k) a3 a4) ∨ (¬ ft_f k C q (k.2.1 (.inl 147)) t ∧ ∀ i, i = 67 ∨ i = 68 ∨ i = 69 → (f250 a1 a2 a3 a4 k).2.1 (.inl 105) i = k.2.1 (.inl 105) i)) := by
  obtain ⟨F8, M8, W8⟩ := T218 (k := k)
  have e0 : f250 a1 a2 a3 a4 k = g250_7 a1 a2 a3 a4 (nI 0) (f218 k) := by
    rw [f250_eq]
    rfl
  have r5 : ∀ (g : mx_H), tw_F k g → ∀ i, i ≠ 37 → i ≠ 42 → g.2.1 (.inl 105) i = k.2.1 (.inl 105) i := fun g w i h1 h2 => w _ _ (ne_l (by decide)) (ne_l (by decide)) (ne_l (by decide)) (fun e => by omega)
  rcases U7 (a1 := a1) (a3 := a3) (a4 := a4) (m := m) hC C6 V h2 q1 q9 (show t ≤ 6 by omega) (show b + 200 < 2147483647 by omega) f95 t 0 (g := f218 k) (by omega) ⟨tw_fr F8, mi_Sf (fun i => W8 _ _ (ne_l (by decide))) (W8 _ _ (ne_l (by decide))) st, M8 _, (congrArg Int32.toInt (W8 _ _ (ne_l (by decide)))).trans ht, f95 _ (tw_fr F8)⟩ F8 with ⟨g', w1, ⟨v1, v2, v3, v4, v5⟩, w3, w4⟩ | ⟨g', w1, ⟨v1, v2, v3, v4, v5⟩, w3, i', w4, w5, w6⟩
  · have fit : ft_f k C q (k.2.1 (.inl 147)) t := fun i hi => w4 i (Nat.zero_le _) hi
    have tn : g'.2.1 (.inl 105) 65 = nI t := i_eq v4 (nI_toInt (n := t) (by omega)) rfl
    have c7 := r5 g' w1 67 (by decide) (by decide)
    rw [e0, w3, g250_7_eq, if_pos (i_le v4 (nI_toInt (n := t) (by omega)) (Int.le_refl _)), rI_s]
    by_cases z : g'.2.1 (.inl 105) 67 + 1 ≠ 1
    · rw [if_pos z, rI_i (by decide), tn]
      obtain ⟨g2, y1, y2, y3, y4⟩ := U75 (a1 := a1) (m := m) (M := b + 42) hC C6 V h2 q1 q9 m6 (by omega) f95 (m - t) t (g := mx_uI g' (.inl 105) 67 (g'.2.1 (.inl 105) 67 + 1)) (by omega) ⟨fun x i h1 h2 h3 h4 h5 => (rI_a (ne_l h5)).trans (v1.1 x i h1 h2 h3 h4 h5), fun i h1 h2 h3 h4 h5 => (rI_i h3).trans (v1.2 i h1 h2 h3 h4 h5)⟩ (mi_Sf (fun i => rI_a (ne_l (by decide))) (rI_i (by decide)) (v2.up (by omega))) (fun p hp => by
        rw [rI_a (ne_l (by decide))]
        exact v3 p hp)
      rw [y1]
      refine ⟨y2, y3.up (by omega), Or.inl ⟨fit, ?_, fun y => absurd (by rw [c7]; exact y) z, fun _ => ⟨?_, ?_⟩⟩⟩
      · rw [y4 67 (Or.inl rfl), rI_s, c7]
      · rw [y4 68 (Or.inr (Or.inl rfl)), rI_i (by decide)]
        exact r5 g' w1 68 (by decide) (by decide)
      · rw [y4 69 (Or.inr (Or.inr rfl)), rI_i (by decide)]
        exact r5 g' w1 69 (by decide) (by decide)
    · have z0 : g'.2.1 (.inl 105) 67 + 1 = 1 := Decidable.not_not.mp z
      rw [if_neg z, rI_i (by decide), rI_i (by decide), rI_i (by decide), tn]
      obtain ⟨g2, y1, y2, y3, y4⟩ := U75 (a1 := a1) (m := m) (M := b + 42) hC C6 V h2 q1 q9 m6 (by omega) f95 (m - t) t (g := mx_uI (mx_uI (mx_uI g' (.inl 105) 67 (g'.2.1 (.inl 105) 67 + 1)) (.inl 105) 68 a3) (.inl 105) 69 a4) (by omega) ⟨fun x i h1 h2 h3 h4 h5 => (rI_a (ne_l h5)).trans ((rI_a (ne_l h5)).trans ((rI_a (ne_l h5)).trans (v1.1 x i h1 h2 h3 h4 h5))), fun i h1 h2 h3 h4 h5 => (rI_i h5).trans ((rI_i h4).trans ((rI_i h3).trans (v1.2 i h1 h2 h3 h4 h5)))⟩ (mi_Sf (fun i => (rI_a (ne_l (by decide))).trans ((rI_a (ne_l (by decide))).trans (rI_a (ne_l (by decide))))) ((rI_i (by decide)).trans ((rI_i (by decide)).trans (rI_i (by decide)))) (v2.up (by omega))) (fun p hp => by
        rw [rI_a (ne_l (by decide)), rI_a (ne_l (by decide)), rI_a (ne_l (by decide))]
        exact v3 p hp)
      rw [y1]
      refine ⟨y2, y3.up (by omega), Or.inl ⟨fit, ?_, fun _ => ⟨?_, ?_⟩, fun y => absurd (by rw [← c7]; exact z0) y⟩⟩
      · rw [y4 67 (Or.inl rfl), rI_i (by decide), rI_i (by decide), rI_s, c7]
      · rw [y4 68 (Or.inr (Or.inl rfl)), rI_i (by decide), rI_s]
      · rw [y4 69 (Or.inr (Or.inr rfl)), rI_s]
  · rw [e0, w3]
    exact ⟨tw_fr w1, v2.up (by omega), Or.inr ⟨fun f => w6 (f i' w5), fun i hi => r5 g' w1 i (by omega) (by omega)⟩⟩
end MYE
