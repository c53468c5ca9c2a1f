/-! ===== a draft that grows piece by piece, bodies born at once ===== -/
section RQ
variable {h hc hr gc gr : mx_H} {S N n C M k : Nat}
/-- M pieces are there, of bodies N, N + 1, .. -/
def rj_J (hc hr : mx_H) (S C N M : Nat) : Prop := C ≤ 6 ∧ rD hc (.inr (S, 0)) 6 = M ∧ rD hr (.inl 105) 12 = ((N + M : Nat) : Int) ∧ (∀ q, q < M → hr.2.1 (.inl 116) (N + q) = 1 ∧ ∃ u v, rs_k hc hr S C N q u v) ∧
  (∀ u v, u < 6 → v < 6 → hr.2.1 (.inl 113) (36 * S + 6 * u + v) = 0 ∨ ∃ q, q < M ∧ (rs_k hc hr S C N q u v ∨ rs_k hc hr S C N q v u)) ∧ M = sd_C sd_CL (rz_g hr S)
theorem rj_15 {u v : Nat} (J : rj_J hc hr S C N M) (hu : u < 6) (hv : v < 6) (hn : u ≠ v) (z1 : hr.2.1 (.inl 113) (36 * S + 6 * u + v) = 0) (z2 : hr.2.1 (.inl 113) (36 * S + 6 * v + u) = 0) : M < 15 := by
  obtain ⟨c0, h0, e0⟩ := sd_pair hu hv hn
  have f0 : ¬ rz_g hr S c0 = true := fun q => by
    have q' := of_decide_eq_true q
    rcases e0 with rfl | rfl
    · exact q' (by rw [← Nat.add_assoc]; exact z1)
    · exact q' (by rw [← Nat.add_assoc]; exact z2)
  have := sd_C_14 h0 f0
  have e := J.2.2.2.2.2
  omega
theorem rj_add {mn mx d e w bo : Int32} {u v : Nat} (J : rj_J hc hr S C N M) (hu : u < C) (hv : v < C) (hn : u ≠ v) (z1 : hr.2.1 (.inl 113) (36 * S + 6 * u + v) = 0) (z2 : hr.2.1 (.inl 113) (36 * S + 6 * v + u) = 0)
    (c5 : ∀ i, gc.2.1 (.inr (S, 5)) i = if i = M then mn else hc.2.1 (.inr (S, 5)) i) (c6 : ∀ i, gc.2.1 (.inr (S, 6)) i = if i = M then mx else hc.2.1 (.inr (S, 6)) i) (c7 : ∀ i, gc.2.1 (.inr (S, 7)) i = if i = M then d else hc.2.1 (.inr (S, 7)) i) (c8 : ∀ i, gc.2.1 (.inr (S, 8)) i = if i = M then e else hc.2.1 (.inr (S, 8)) i)
    (c0 : rD gc (.inr (S, 0)) 6 = ((M + 1 : Nat) : Int)) (hmn : mn.toInt = ((min u v : Nat) : Int)) (hmx : mx.toInt = ((max u v : Nat) : Int)) (hbo : bo.toInt = ((N + M + 1 : Nat) : Int)) (hw : w.toInt = ((36 * S + 6 * u + v + 1 : Nat) : Int))
    (g113 : ∀ i, gr.2.1 (.inl 113) i = if i = 36 * S + 6 * v + u then bo else if i = 36 * S + 6 * u + v then bo else hr.2.1 (.inl 113) i) (g111 : ∀ i, gr.2.1 (.inl 111) i = if i = 36 * S + 6 * v + u then d else if i = 36 * S + 6 * u + v then d else hr.2.1 (.inl 111) i) (g112 : ∀ i, gr.2.1 (.inl 112) i = if i = 36 * S + 6 * v + u then e else if i = 36 * S + 6 * u + v then e else hr.2.1 (.inl 112) i)
    (g116 : ∀ i, gr.2.1 (.inl 116) i = if i = N + M then 1 else hr.2.1 (.inl 116) i) (g117 : ∀ i, gr.2.1 (.inl 117) i = if i = N + M then w else hr.2.1 (.inl 117) i) (g12 : rD gr (.inl 105) 12 = ((N + M + 1 : Nat) : Int)) (hde : e.toInt ≤ d.toInt) : rj_J gc gr S C N (M + 1) ∧ ∀ u' v', u' < 6 → v' < 6 → ¬ gr.2.1 (.inl 113) (36 * S + 6 * u' + v') = 0 → (u' = u ∧ v' = v) ∨ (u' = v ∧ v' = u) ∨ ¬ hr.2.1 (.inl 113) (36 * S + 6 * u' + v') = 0 := by
  obtain ⟨C6, j1, j2, j3, j4, j5⟩ := J
  have nz : ∀ (i m : Nat), rD hr (.inl 113) i = ((m + 1 : Nat) : Int) → ¬ hr.2.1 (.inl 113) i = 0 := fun i m t z => by
    unfold rD at t
    rw [z, k_0] at t
    omega
  have bn : ¬ bo = 0 := i_ne hbo k_0 (by omega)
  have old : ∀ q u' v', q < M → rs_k hc hr S C N q u' v' → rs_k gc gr S C N q u' v' := fun q u' v' hq Q => by
    obtain ⟨o1, o2, o3, o4, o5, o6, o7, o8, o9, o10, o11, o12⟩ := Q
    have ne : ¬ q = M := by omega
    have ne2 : ¬ N + q = N + M := by omega
    have m1 : ¬ 36 * S + 6 * u' + v' = 36 * S + 6 * v + u := fun t => nz _ _ o6 (by rw [t]; exact z2)
    have m2 : ¬ 36 * S + 6 * u' + v' = 36 * S + 6 * u + v := fun t => nz _ _ o6 (by rw [t]; exact z1)
    have m3 : ¬ 36 * S + 6 * v' + u' = 36 * S + 6 * v + u := fun t => nz _ _ o7 (by rw [t]; exact z2)
    have m4 : ¬ 36 * S + 6 * v' + u' = 36 * S + 6 * u + v := fun t => nz _ _ o7 (by rw [t]; exact z1)
    unfold rs_k rD
    rw [c5 q, c6 q, c7 q, c8 q, g113 (36 * S + 6 * u' + v'), g113 (36 * S + 6 * v' + u'), g111 (36 * S + 6 * u' + v'), g111 (36 * S + 6 * v' + u'), g112 (36 * S + 6 * u' + v'), g112 (36 * S + 6 * v' + u'), g117 (N + q), if_neg ne, if_neg ne, if_neg ne, if_neg ne, if_neg m1, if_neg m2, if_neg m3, if_neg m4, if_neg m1, if_neg m2, if_neg m3, if_neg m4, if_neg m1, if_neg m2, if_neg m3, if_neg m4, if_neg ne2]
    exact ⟨o1, o2, o3, o4, o5, o6, o7, o8, o9, o10, o11, o12⟩
  have new : rs_k gc gr S C N M u v := by
    have m1 : ¬ 36 * S + 6 * u + v = 36 * S + 6 * v + u := by omega
    unfold rs_k rD
    rw [c5 M, c6 M, c7 M, c8 M, g113 (36 * S + 6 * u + v), g113 (36 * S + 6 * v + u), g111 (36 * S + 6 * u + v), g111 (36 * S + 6 * v + u), g112 (36 * S + 6 * u + v), g112 (36 * S + 6 * v + u), g117 (N + M)]
    simp only [if_neg m1, if_true]
    exact ⟨hu, hv, hn, hmn, hmx, hbo, hbo, trivial, trivial, trivial, trivial, hw, hde⟩
  refine ⟨⟨C6, c0, g12, fun q hq => ?_, fun u' v' hu' hv' => ?_, ?_⟩, fun u' v' hu' hv' t => ?_⟩
  · rw [g116]
    by_cases t : q = M
    · rw [if_pos (by omega), t]
      exact ⟨rfl, u, v, new⟩
    · rw [if_neg (by omega)]
      obtain ⟨b1, u', v', Q⟩ := j3 q (by omega)
      exact ⟨b1, u', v', old q u' v' (by omega) Q⟩
  · rw [g113]
    by_cases e1 : 36 * S + 6 * u' + v' = 36 * S + 6 * v + u
    · refine Or.inr ⟨M, by omega, Or.inr ?_⟩
      have : u' = v ∧ v' = u := by omega
      rw [this.1, this.2]
      exact new
    · rw [if_neg e1]
      by_cases e2 : 36 * S + 6 * u' + v' = 36 * S + 6 * u + v
      · refine Or.inr ⟨M, by omega, Or.inl ?_⟩
        have : u' = u ∧ v' = v := by omega
        rw [this.1, this.2]
        exact new
      · rw [if_neg e2]
        rcases j4 u' v' hu' hv' with z | ⟨q, q1, q2⟩
        · exact Or.inl z
        · refine Or.inr ⟨q, by omega, ?_⟩
          rcases q2 with q2 | q2
          · exact Or.inl (old q _ _ q1 q2)
          · exact Or.inr (old q _ _ q1 q2)
  · rw [j5]
    obtain ⟨c0, h0, e0⟩ := sd_pair (show u < 6 by omega) (show v < 6 by omega) hn
    have lt : ∀ c ∈ sd_CL, c / 6 < 6 ∧ c / 6 < c % 6 := by decide
    have gg : ∀ c, rz_g gr S c = true ↔ (c = 6 * v + u ∨ c = 6 * u + v ∨ rz_g hr S c = true) := fun c => by
      unfold rz_g
      rw [decide_eq_true_iff, decide_eq_true_iff, g113]
      by_cases e1 : c = 6 * v + u
      · rw [if_pos (by omega)]
        exact ⟨fun _ => Or.inl e1, fun _ => bn⟩
      · rw [if_neg (by omega)]
        by_cases e2 : c = 6 * u + v
        · rw [if_pos (by omega)]
          exact ⟨fun _ => Or.inr (Or.inl e2), fun _ => bn⟩
        · rw [if_neg (by omega)]
          exact ⟨fun q => Or.inr (Or.inr q), fun q => q.elim (fun q => absurd q e1) (fun q => q.elim (fun q => absurd q e2) id)⟩
    have f0 : ¬ rz_g hr S c0 = true := fun q => by
      have q' := of_decide_eq_true q
      rcases e0 with rfl | rfl
      · exact q' (by rw [← Nat.add_assoc]; exact z1)
      · exact q' (by rw [← Nat.add_assoc]; exact z2)
    apply Nat.le_antisymm
    · exact sd_C_lt2 (fun c _ q => (gg c).mpr (Or.inr (Or.inr q))) h0 f0 ((gg c0).mpr (by omega))
    · refine sd_C_add1 (c := c0) sd_CLn (fun c hc1 e q => ?_)
      have l1 := lt c hc1
      have l2 := lt c0 h0
      have u6 : u < 6 := by omega
      have v6 : v < 6 := by omega
      rcases (gg c).mp q with q | q | q
      · exfalso
        have d1 : c / 6 = v := by omega
        have d2 : c % 6 = u := by omega
        rcases e0 with e0 | e0
        · have d3 : c0 / 6 = u := by omega
          have d4 : c0 % 6 = v := by omega
          omega
        · omega
      · exfalso
        have d1 : c / 6 = u := by omega
        have d2 : c % 6 = v := by omega
        rcases e0 with e0 | e0
        · omega
        · have d3 : c0 / 6 = v := by omega
          have d4 : c0 % 6 = u := by omega
          omega
      · exact q
  · rw [g113] at t
    by_cases e1 : 36 * S + 6 * u' + v' = 36 * S + 6 * v + u
    · exact Or.inr (Or.inl (by omega))
    · rw [if_neg e1] at t
      by_cases e2 : 36 * S + 6 * u' + v' = 36 * S + 6 * u + v
      · exact Or.inl (by omega)
      · rw [if_neg e2] at t
        exact Or.inr (Or.inr t)
/-- the reference's piece more: set, then born -/
theorem R_add {s x y d e : Int32} {u v : Nat} (hs : s.toInt = (S : Int)) (hx : x.toInt = (u : Int)) (hy : y.toInt = (v : Int)) (hN : rD hr (.inl 105) 12 = N) (S12 : S ≤ 12) (hu : u < 6) (hv : v < 6) (hn : u ≠ v) (hG : gr = f193 s x y (f181 s x y (hr.2.1 (.inl 105) 12) d e hr)) :
    gr.1 = hr.1 ∧ gr.2.2 = hr.2.2 ∧ (∀ q i, gr.2.1 (.inr q) i = hr.2.1 (.inr q) i) ∧ (∀ i, gr.2.1 (.inl 113) i = if i = 36 * S + 6 * v + u then hr.2.1 (.inl 105) 12 + 1 else if i = 36 * S + 6 * u + v then hr.2.1 (.inl 105) 12 + 1 else hr.2.1 (.inl 113) i) ∧
    (∀ i, gr.2.1 (.inl 111) i = if i = 36 * S + 6 * v + u then d else if i = 36 * S + 6 * u + v then d else hr.2.1 (.inl 111) i) ∧ (∀ i, gr.2.1 (.inl 112) i = if i = 36 * S + 6 * v + u then e else if i = 36 * S + 6 * u + v then e else hr.2.1 (.inl 112) i) ∧
    (∀ i, gr.2.1 (.inl 116) i = if i = N then 1 else hr.2.1 (.inl 116) i) ∧ (∀ i, gr.2.1 (.inl 117) i = if i = N then f179 s x y + 1 else hr.2.1 (.inl 117) i) ∧ gr.2.1 (.inl 105) 12 = hr.2.1 (.inl 105) 12 + 1 ∧ (∀ i, i ≠ 12 → gr.2.1 (.inl 105) i = hr.2.1 (.inl 105) i) ∧
    ∀ q i, q ≠ 105 → q ≠ 111 → q ≠ 112 → q ≠ 113 → q ≠ 116 → q ≠ 117 → gr.2.1 (.inl q) i = hr.2.1 (.inl q) i := by
  have m1 : ¬ 36 * S + 6 * u + v = 36 * S + 6 * v + u := by omega
  rw [k181 hs hx hy S12 hu hv] at hG
  generalize hh : k_p (k_p hr (36 * S + 6 * u + v) (hr.2.1 (.inl 105) 12) d e) (36 * S + 6 * v + u) (hr.2.1 (.inl 105) 12) d e = h at hG
  have t12 : h.2.1 (.inl 105) 12 = hr.2.1 (.inl 105) 12 := by
    rw [← hh]
    rfl
  have t113 : ∀ i, h.2.1 (.inl 113) i = if i = 36 * S + 6 * v + u then hr.2.1 (.inl 105) 12 + 1 else if i = 36 * S + 6 * u + v then hr.2.1 (.inl 105) 12 + 1 else hr.2.1 (.inl 113) i := fun i => by rw [← hh, k_p3, k_p3]
  have t111 : ∀ i, h.2.1 (.inl 111) i = if i = 36 * S + 6 * v + u then d else if i = 36 * S + 6 * u + v then d else hr.2.1 (.inl 111) i := fun i => by rw [← hh, k_p1, k_p1]
  have t112 : ∀ i, h.2.1 (.inl 112) i = if i = 36 * S + 6 * v + u then e else if i = 36 * S + 6 * u + v then e else hr.2.1 (.inl 112) i := fun i => by rw [← hh, k_p2, k_p2]
  have d1 : h.2.1 (.inl 111) (36 * S + 6 * u + v) = d := by rw [t111, if_neg m1, if_pos rfl]
  have d2 : h.2.1 (.inl 112) (36 * S + 6 * u + v) = e := by rw [t112, if_neg m1, if_pos rfl]
  rw [R193 hs hx hy (show rD h (.inl 105) 12 = N by unfold rD; rw [t12]; exact hN) S12 hu hv, d1, d2, t12] at hG
  refine ⟨?_, ?_, fun q i => ?_, fun i => ?_, fun i => ?_, fun i => ?_, fun i => ?_, fun i => ?_, ?_, fun i hi => ?_, fun q i q0 q1 q2 q3 q4 q5 => ?_⟩
  · rw [hG, ← hh]
    rfl
  · rw [hG, ← hh]
    rfl
  · rw [hG, ← hh]
    rfl
  · rw [hG]
    show (k_p (k_p (mx_uI (mx_uI h (.inl 116) N 1) (.inl 117) N (f179 s x y + 1)) (36 * S + 6 * u + v) (hr.2.1 (.inl 105) 12) d e) (36 * S + 6 * v + u) (hr.2.1 (.inl 105) 12) d e).2.1 (.inl 113) i = _
    rw [k_p3, k_p3]
    show (if i = 36 * S + 6 * v + u then hr.2.1 (.inl 105) 12 + 1 else if i = 36 * S + 6 * u + v then hr.2.1 (.inl 105) 12 + 1 else h.2.1 (.inl 113) i) = _
    rw [t113]
    by_cases e1 : i = 36 * S + 6 * v + u
    · rw [if_pos e1, if_pos e1]
    · rw [if_neg e1, if_neg e1]
      by_cases e2 : i = 36 * S + 6 * u + v
      · rw [if_pos e2, if_pos e2]
      · rw [if_neg e2, if_neg e2]
  · rw [hG]
    show (k_p (k_p (mx_uI (mx_uI h (.inl 116) N 1) (.inl 117) N (f179 s x y + 1)) (36 * S + 6 * u + v) (hr.2.1 (.inl 105) 12) d e) (36 * S + 6 * v + u) (hr.2.1 (.inl 105) 12) d e).2.1 (.inl 111) i = _
    rw [k_p1, k_p1]
    show (if i = 36 * S + 6 * v + u then d else if i = 36 * S + 6 * u + v then d else h.2.1 (.inl 111) i) = _
    rw [t111]
    by_cases e1 : i = 36 * S + 6 * v + u
    · rw [if_pos e1, if_pos e1]
    · rw [if_neg e1, if_neg e1]
      by_cases e2 : i = 36 * S + 6 * u + v
      · rw [if_pos e2, if_pos e2]
      · rw [if_neg e2, if_neg e2]
  · rw [hG]
    show (k_p (k_p (mx_uI (mx_uI h (.inl 116) N 1) (.inl 117) N (f179 s x y + 1)) (36 * S + 6 * u + v) (hr.2.1 (.inl 105) 12) d e) (36 * S + 6 * v + u) (hr.2.1 (.inl 105) 12) d e).2.1 (.inl 112) i = _
    rw [k_p2, k_p2]
    show (if i = 36 * S + 6 * v + u then e else if i = 36 * S + 6 * u + v then e else h.2.1 (.inl 112) i) = _
    rw [t112]
    by_cases e1 : i = 36 * S + 6 * v + u
    · rw [if_pos e1, if_pos e1]
    · rw [if_neg e1, if_neg e1]
      by_cases e2 : i = 36 * S + 6 * u + v
      · rw [if_pos e2, if_pos e2]
      · rw [if_neg e2, if_neg e2]
  · rw [hG]
    show (mx_uI h (.inl 116) N 1).2.1 (.inl 116) i = _
    by_cases e1 : i = N
    · rw [if_pos e1, rI_c rfl e1]
    · rw [if_neg e1, rI_i e1, ← hh]
      rfl
  · rw [hG]
    show (mx_uI (mx_uI h (.inl 116) N 1) (.inl 117) N (f179 s x y + 1)).2.1 (.inl 117) i = _
    by_cases e1 : i = N
    · rw [if_pos e1, rI_c rfl e1]
    · rw [if_neg e1, rI_i e1, ← hh]
      rfl
  · rw [hG, rI_s]
  · rw [hG, rI_i hi, ← hh]
    rfl
  · rw [hG, rN q0, k_po q1 q2 q3, k_po q1 q2 q3, rN q5, rN q4, ← hh, k_po q1 q2 q3, k_po q1 q2 q3]
end RQ
