/-! ===== bear, on the reference's side ===== -/
section RB
variable {h hc hr g : mx_H} {S N n C k : Nat}
theorem R193 {s x y : Int32} {u v : Nat} (hs : s.toInt = (S : Int)) (hx : x.toInt = (u : Int)) (hy : y.toInt = (v : Int)) (hN : rD h (.inl 105) 12 = N) (S12 : S ≤ 12) (hu : u < 6) (hv : v < 6) :
    f193 s x y h = mx_uI (k_p (k_p (mx_uI (mx_uI h (.inl 116) N 1) (.inl 117) N (f179 s x y + 1)) (36 * S + 6 * u + v) (h.2.1 (.inl 105) 12) (h.2.1 (.inl 111) (36 * S + 6 * u + v)) (h.2.1 (.inl 112) (36 * S + 6 * u + v))) (36 * S + 6 * v + u) (h.2.1 (.inl 105) 12) (h.2.1 (.inl 111) (36 * S + 6 * u + v)) (h.2.1 (.inl 112) (36 * S + 6 * u + v))) (.inl 105) 12 (h.2.1 (.inl 105) 12 + 1) := by
  rw [f193_eq]
  show x_h (f181 s x y (h.2.1 (.inl 105) 12) (h.2.1 (.inl 111) (Int32.toNatClampNeg (f179 s x y))) (h.2.1 (.inl 112) (Int32.toNatClampNeg (f179 s x y))) (mx_uI (mx_uI h (.inl 116) (Int32.toNatClampNeg (h.2.1 (.inl 105) 12)) 1) (.inl 117) (Int32.toNatClampNeg (h.2.1 (.inl 105) 12)) (f179 s x y + 1))) (fun h11 => mx_uI h11 (.inl 105) 12 (h11.2.1 (.inl 105) 12 + 1)) = _
  rw [k181 hs hx hy S12 hu hv, i_cl (w179 hs hx hy S12 hu hv), i_cl hN]
  rfl
/-- k pieces are born -/
def k_R (hc hr g : mx_H) (S C N k : Nat) : Prop := g.1 = hr.1 ∧ g.2.2 = hr.2.2 ∧ (∀ q i, g.2.1 (.inr q) i = hr.2.1 (.inr q) i) ∧ rD g (.inl 105) 12 = ((N + k : Nat) : Int) ∧ (∀ i, i ≠ 12 → g.2.1 (.inl 105) i = hr.2.1 (.inl 105) i) ∧
  (∀ a i, a ≠ 105 → a ≠ 113 → a ≠ 116 → a ≠ 117 → g.2.1 (.inl a) i = hr.2.1 (.inl a) i) ∧ (∀ i, i < N → g.2.1 (.inl 116) i = hr.2.1 (.inl 116) i ∧ g.2.1 (.inl 117) i = hr.2.1 (.inl 117) i) ∧
  (∀ q, q < k → g.2.1 (.inl 116) (N + q) = 1 ∧ ∀ u v, rz_k hc hr S C q u v → rD g (.inl 113) (36 * S + 6 * u + v) = ((N + q + 1 : Nat) : Int) ∧ rD g (.inl 113) (36 * S + 6 * v + u) = ((N + q + 1 : Nat) : Int) ∧ rD g (.inl 117) (N + q) = ((36 * S + 6 * u + v + 1 : Nat) : Int)) ∧
  ∀ i, (∀ q u v, q < k → rz_k hc hr S C q u v → i ≠ 36 * S + 6 * u + v ∧ i ≠ 36 * S + 6 * v + u) → g.2.1 (.inl 113) i = hr.2.1 (.inl 113) i
theorem k_R.s {s x y : Int32} {u v : Nat} (K : rz_C hc hr S C n) (R : k_R hc hr g S C N k) (hk : k < n) (Q : rz_k hc hr S C k u v) (hs : s.toInt = (S : Int)) (hx : x.toInt = (u : Int)) (hy : y.toInt = (v : Int)) (S12 : S ≤ 12) (nn : N + n ≤ 200) : k_R hc hr (f193 s x y g) S C N (k + 1) := by
  obtain ⟨C6, -, -, -, -, -, -, kP1, kP2, kP3, kP4⟩ := K
  obtain ⟨r1, r2, r3, r4, r5, r6, r7, r8, r9⟩ := R
  have hu : u < 6 := by have := Q.1; omega
  have hv : v < 6 := by have := Q.2.1; omega
  have hne := Q.2.2.1
  have w := w179 hs hx hy S12 hu hv
  rw [R193 hs hx hy r4 S12 hu hv]
  generalize hG : mx_uI (k_p (k_p (mx_uI (mx_uI g (.inl 116) (N + k) 1) (.inl 117) (N + k) (f179 s x y + 1)) (36 * S + 6 * u + v) (g.2.1 (.inl 105) 12) (g.2.1 (.inl 111) (36 * S + 6 * u + v)) (g.2.1 (.inl 112) (36 * S + 6 * u + v))) (36 * S + 6 * v + u) (g.2.1 (.inl 105) 12) (g.2.1 (.inl 111) (36 * S + 6 * u + v)) (g.2.1 (.inl 112) (36 * S + 6 * u + v))) (.inl 105) 12 (g.2.1 (.inl 105) 12 + 1) = G
  have g113 : ∀ i, G.2.1 (.inl 113) i = if i = 36 * S + 6 * v + u then g.2.1 (.inl 105) 12 + 1 else if i = 36 * S + 6 * u + v then g.2.1 (.inl 105) 12 + 1 else g.2.1 (.inl 113) i := fun i => by
    rw [← hG, rN (show (113 : Nat) ≠ 105 by decide), k_p3, k_p3, rN (show (113 : Nat) ≠ 117 by decide), rN (show (113 : Nat) ≠ 116 by decide)]
  have g111 : ∀ i, G.2.1 (.inl 111) i = if i = 36 * S + 6 * v + u then g.2.1 (.inl 111) (36 * S + 6 * u + v) else if i = 36 * S + 6 * u + v then g.2.1 (.inl 111) (36 * S + 6 * u + v) else g.2.1 (.inl 111) i := fun i => by
    rw [← hG, rN (show (111 : Nat) ≠ 105 by decide), k_p1, k_p1, rN (show (111 : Nat) ≠ 117 by decide), rN (show (111 : Nat) ≠ 116 by decide)]
  have g112 : ∀ i, G.2.1 (.inl 112) i = if i = 36 * S + 6 * v + u then g.2.1 (.inl 112) (36 * S + 6 * u + v) else if i = 36 * S + 6 * u + v then g.2.1 (.inl 112) (36 * S + 6 * u + v) else g.2.1 (.inl 112) i := fun i => by
    rw [← hG, rN (show (112 : Nat) ≠ 105 by decide), k_p2, k_p2, rN (show (112 : Nat) ≠ 117 by decide), rN (show (112 : Nat) ≠ 116 by decide)]
  have g116 : ∀ i, G.2.1 (.inl 116) i = if i = N + k then 1 else g.2.1 (.inl 116) i := fun i => by
    rw [← hG]
    show (mx_uI g (.inl 116) (N + k) 1).2.1 (.inl 116) i = _
    by_cases e : i = N + k
    · rw [if_pos e, rI_c rfl e]
    · rw [if_neg e, rI_i e]
  have g117 : ∀ i, G.2.1 (.inl 117) i = if i = N + k then f179 s x y + 1 else g.2.1 (.inl 117) i := fun i => by
    rw [← hG]
    show (mx_uI (mx_uI g (.inl 116) (N + k) 1) (.inl 117) (N + k) (f179 s x y + 1)).2.1 (.inl 117) i = _
    by_cases e : i = N + k
    · rw [if_pos e, rI_c rfl e]
    · rw [if_neg e, rI_i e]
      rfl
  have go : ∀ q i, q ≠ 105 → q ≠ 111 → q ≠ 112 → q ≠ 113 → q ≠ 116 → q ≠ 117 → G.2.1 (.inl q) i = g.2.1 (.inl q) i := fun q i q0 q1 q2 q3 q4 q5 => by
    rw [← hG, rN q0, k_po q1 q2 q3, k_po q1 q2 q3, rN q5, rN q4]
  have bo : (g.2.1 (.inl 105) 12 + 1).toInt = ((N + k + 1 : Nat) : Int) := by
    rw [i_add r4 k_1 (by omega) (by omega)]
    omega
  have far : ∀ q u' v', q < k → rz_k hc hr S C q u' v' → (36 * S + 6 * u' + v' ≠ 36 * S + 6 * u + v ∧ 36 * S + 6 * u' + v' ≠ 36 * S + 6 * v + u) ∧ (36 * S + 6 * v' + u' ≠ 36 * S + 6 * u + v ∧ 36 * S + 6 * v' + u' ≠ 36 * S + 6 * v + u) := fun q u' v' hq Q' => by
    have t := kP4 k q u v hk (by omega) (by omega) Q
    have a1 := Q'.1
    have a2 := Q'.2.1
    have n1 : ¬ (u' = u ∧ v' = v) := fun e => t.1 (by rw [← e.1, ← e.2]; exact Q')
    have n2 : ¬ (u' = v ∧ v' = u) := fun e => t.2 (by rw [← e.1, ← e.2]; exact Q')
    omega
  have st : ∀ i, G.2.1 (.inl 111) i = hr.2.1 (.inl 111) i := fun i => by
    rw [g111, r6 111 _ (by decide) (by decide) (by decide) (by decide), r6 111 _ (by decide) (by decide) (by decide) (by decide)]
    have q1 := Q.2.2.2.2.2.2.2.2.2.1
    have q2 := Q.2.2.2.2.2.2.2.2.2.2.1
    by_cases e : i = 36 * S + 6 * v + u
    · rw [if_pos e, e, q1, q2]
    · rw [if_neg e]
      by_cases e2 : i = 36 * S + 6 * u + v
      · rw [if_pos e2, e2]
      · rw [if_neg e2]
  have cr : ∀ i, G.2.1 (.inl 112) i = hr.2.1 (.inl 112) i := fun i => by
    rw [g112, r6 112 _ (by decide) (by decide) (by decide) (by decide), r6 112 _ (by decide) (by decide) (by decide) (by decide)]
    have q1 := Q.2.2.2.2.2.2.2.2.2.2.2.1
    have q2 := Q.2.2.2.2.2.2.2.2.2.2.2.2.1
    by_cases e : i = 36 * S + 6 * v + u
    · rw [if_pos e, e, q1, q2]
    · rw [if_neg e]
      by_cases e2 : i = 36 * S + 6 * u + v
      · rw [if_pos e2, e2]
      · rw [if_neg e2]
  refine ⟨?_, ?_, fun q i => ?_, ?_, fun i hi => ?_, fun a i a1 a2 a3 a4 => ?_, fun i hi => ?_, fun q hq => ?_, fun i hi => ?_⟩
  · rw [← hG]
    exact r1
  · rw [← hG]
    exact r2
  · rw [← hG]
    exact r3 q i
  · unfold rD
    rw [← hG, rI_s, bo]
    omega
  · rw [← hG, rI_i hi]
    exact r5 i hi
  · by_cases e1 : a = 111
    · subst e1
      exact st i
    · by_cases e2 : a = 112
      · subst e2
        exact cr i
      · rw [go a i a1 e1 e2 a2 a3 a4]
        exact r6 a i a1 a2 a3 a4
  · rw [g116, g117, if_neg (by omega), if_neg (by omega)]
    exact r7 i hi
  · by_cases e : q = k
    · subst e
      rw [g116, if_pos rfl]
      refine ⟨rfl, fun u' v' Q' => ?_⟩
      have e1 : u' = u := by
        have a1 := Q.2.2.2.1
        have a2 := Q'.2.2.2.1
        omega
      have e2 : v' = v := by
        have a1 := Q.2.2.2.2.1
        have a2 := Q'.2.2.2.2.1
        omega
      subst e1
      subst e2
      unfold rD
      rw [g113, g113, g117, if_pos rfl, if_pos rfl, if_neg (show ¬ 36 * S + 6 * u' + v' = 36 * S + 6 * v' + u' by omega), if_pos rfl]
      refine ⟨bo, bo, ?_⟩
      rw [i_add w k_1 (by omega) (by omega)]
      omega
    · obtain ⟨b1, b2⟩ := r8 q (by omega)
      rw [g116, if_neg (by omega)]
      refine ⟨b1, fun u' v' Q' => ?_⟩
      obtain ⟨⟨f1, f2⟩, f3, f4⟩ := far q u' v' (by omega) Q'
      unfold rD
      rw [g113, g113, g117, if_neg f2, if_neg f1, if_neg f4, if_neg f3, if_neg (by omega)]
      exact b2 u' v' Q'
  · have t := hi k u v (by omega) Q
    rw [g113, if_neg t.2, if_neg t.1]
    exact r9 i (fun q u' v' hq Q' => hi q u' v' (by omega) Q')
/-- the reference's new shape -/
def k_M (g : mx_H) (S : Nat) : mx_H := mx_uI (mx_uI g (.inl 114) S (-1)) (.inl 105) 1 (g.2.1 (.inl 105) 1 + 1)
theorem R194g (K : rz_C hc hr S C n) (S12 : S ≤ 12) (nn : N + n ≤ 200) (hS : rD hr (.inl 105) 1 = S) : ∀ (j k : Nat) (a1 : Int32) {g : mx_H}, k + j = n → a1.toInt = (k : Int) → k_R hc hr g S C N k → ∃ g', k_R hc hr g' S C N n ∧ g194_61 a1 g = (g'.2.1 (.inl 105) 1 + 1 - 1, k_M g' S)
  | 0, k, a1, g, e, ha, R => by
    have e' : k = n := by omega
    subst e'
    have s1 : rD g (.inl 105) 1 = S := by
      unfold rD
      rw [R.2.2.2.2.1 1 (by decide)]
      exact hS
    have s19 : rD g (.inl 105) 19 = k := by
      unfold rD
      rw [R.2.2.2.2.1 19 (by decide)]
      exact K.2.2.2.2.1
    refine ⟨g, R, ?_⟩
    rw [g194_61_eq, if_pos (i_le s19 ha (by omega)), i_cl s1]
    rfl
  | j + 1, k, a1, g, e, ha, R => by
    have s1 : rD g (.inl 105) 1 = S := by
      unfold rD
      rw [R.2.2.2.2.1 1 (by decide)]
      exact hS
    have s19 : rD g (.inl 105) 19 = n := by
      unfold rD
      rw [R.2.2.2.2.1 19 (by decide)]
      exact K.2.2.2.2.1
    obtain ⟨u, v, Q⟩ := K.2.2.2.2.2.2.2.1 k (by omega)
    have hx : (g.2.1 (.inl 119) k).toInt = (u : Int) := by
      rw [R.2.2.2.2.2.1 119 k (by decide) (by decide) (by decide) (by decide)]
      exact Q.2.2.2.1
    have hy : (g.2.1 (.inl 120) k).toInt = (v : Int) := by
      rw [R.2.2.2.2.2.1 120 k (by decide) (by decide) (by decide) (by decide)]
      exact Q.2.2.2.2.1
    rw [g194_61_eq, if_neg (i_nle s19 ha (by omega)), i_cl ha]
    show ∃ g', k_R hc hr g' S C N n ∧ g194_61 (a1 + 1) (f193 (g.2.1 (.inl 105) 1) (g.2.1 (.inl 119) k) (g.2.1 (.inl 120) k) g) = (g'.2.1 (.inl 105) 1 + 1 - 1, k_M g' S)
    exact R194g K S12 nn hS j (k + 1) (a1 + 1) (by omega) (by rw [i_add ha k_1 (by omega) (by omega)]; omega) (R.s K (by omega) Q s1 hx hy S12 nn)
theorem k_R.z (K : rz_C hc hr S C n) (hN : rD hr (.inl 105) 12 = N) : k_R hc hr hr S C N 0 := ⟨rfl, rfl, fun _ _ => rfl, hN, fun _ _ => rfl, fun _ _ _ _ _ _ => rfl, fun _ _ => ⟨rfl, rfl⟩, fun q hq => absurd hq (Nat.not_lt_zero _), fun _ _ => rfl⟩
end RB
