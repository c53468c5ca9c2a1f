/-! ===== a draft that grows piece by piece, bodies born at once ===== -/
section RQ
variable {h hc hr gc gr : mx_H} {S N n C M k : Nat}
/-- M pieces are there, of bodies N, N + 1, .. -/
def rj_J (hc hr : mx_H) (S C N M : Nat) : Prop := C ≤ 6 ∧ rD hc (.inr (S, 0)) 6 = M ∧ rD hr (.inl 105) 12 = ((N + M : Nat) : Int) ∧ (∀ q, q < M → hr.2.1 (.inl 116) (N + q) = 1 ∧ ∃ u v, rs_k hc hr S C N q u v) ∧
  (∀ u v, u < 6 → v < 6 → hr.2.1 (.inl 113) (36 * S + 6 * u + v) = 0 ∨ ∃ q, q < M ∧ (rs_k hc hr S C N q u v ∨ rs_k hc hr S C N q v u)) ∧ M = sd_C sd_CL (rz_g hr S)
/-! numbers, apart from the heaps -/
theorem rjm_c {c c0 u v : Nat} (hu : u < 6) (hv : v < 6) (e0 : c0 = 6 * u + v ∨ c0 = 6 * v + u) (l1 : c / 6 < 6 ∧ c / 6 < c % 6) (l2 : c0 / 6 < 6 ∧ c0 / 6 < c0 % 6) (q : c = 6 * v + u ∨ c = 6 * u + v) : c = c0 := by
  rcases q with q | q
  · have d1 : c / 6 = v := by omega
    have d2 : c % 6 = u := by omega
    rcases e0 with e0 | e0
    · exfalso
      have d3 : c0 / 6 = u := by omega
      have d4 : c0 % 6 = v := by omega
      omega
    · omega
  · have d1 : c / 6 = u := by omega
    have d2 : c % 6 = v := by omega
    rcases e0 with e0 | e0
    · omega
    · exfalso
      have d3 : c0 / 6 = v := by omega
      have d4 : c0 % 6 = u := by omega
      omega
theorem rjm_m {u v : Nat} (hn : u ≠ v) : ¬ 36 * S + 6 * u + v = 36 * S + 6 * v + u := by omega
theorem rjm_e {u v u' v' : Nat} (hu : u < 6) (hv : v < 6) (hu' : u' < 6) (hv' : v' < 6) (e : 36 * S + 6 * u' + v' = 36 * S + 6 * u + v) : u' = u ∧ v' = v := by omega
theorem rjm_o {u v c0 : Nat} (e0 : c0 = 6 * u + v ∨ c0 = 6 * v + u) : c0 = 6 * v + u ∨ c0 = 6 * u + v := e0.symm
theorem rj_15 {u v : Nat} (J : rj_J hc hr S C N M) (hu : u < 6) (hv : v < 6) (hn : u ≠ v) (z1 : hr.2.1 (.inl 113) (36 * S + 6 * u + v) = 0) (z2 : hr.2.1 (.inl 113) (36 * S + 6 * v + u) = 0) : M < 15 := by
  obtain ⟨c0, h0, e0⟩ := sd_pair hu hv hn
  have f0 : ¬ rz_g hr S c0 = true := fun q => by
    have q' := of_decide_eq_true q
    rcases e0 with rfl | rfl
    · exact q' (by rw [← Nat.add_assoc]; exact z1)
    · exact q' (by rw [← Nat.add_assoc]; exact z2)
  have := sd_C_14 h0 f0
  have e := J.2.2.2.2.2
  omega
theorem rj_add {mn mx d e w bo : Int32} {u v : Nat} (J : rj_J hc hr S C N M) (hu : u < C) (hv : v < C) (hn : u ≠ v) (z1 : hr.2.1 (.inl 113) (36 * S + 6 * u + v) = 0) (z2 : hr.2.1 (.inl 113) (36 * S + 6 * v + u) = 0)
    (c5 : ∀ i, gc.2.1 (.inr (S, 5)) i = if i = M then mn else hc.2.1 (.inr (S, 5)) i) (c6 : ∀ i, gc.2.1 (.inr (S, 6)) i = if i = M then mx else hc.2.1 (.inr (S, 6)) i) (c7 : ∀ i, gc.2.1 (.inr (S, 7)) i = if i = M then d else hc.2.1 (.inr (S, 7)) i) (c8 : ∀ i, gc.2.1 (.inr (S, 8)) i = if i = M then e else hc.2.1 (.inr (S, 8)) i)
    (c0 : rD gc (.inr (S, 0)) 6 = ((M + 1 : Nat) : Int)) (hmn : mn.toInt = ((min u v : Nat) : Int)) (hmx : mx.toInt = ((max u v : Nat) : Int)) (hbo : bo.toInt = ((N + M + 1 : Nat) : Int)) (hw : w.toInt = ((36 * S + 6 * u + v + 1 : Nat) : Int))
    (g113 : ∀ i, gr.2.1 (.inl 113) i = if i = 36 * S + 6 * v + u then bo else if i = 36 * S + 6 * u + v then bo else hr.2.1 (.inl 113) i) (g111 : ∀ i, gr.2.1 (.inl 111) i = if i = 36 * S + 6 * v + u then d else if i = 36 * S + 6 * u + v then d else hr.2.1 (.inl 111) i) (g112 : ∀ i, gr.2.1 (.inl 112) i = if i = 36 * S + 6 * v + u then e else if i = 36 * S + 6 * u + v then e else hr.2.1 (.inl 112) i)
    (g116 : ∀ i, gr.2.1 (.inl 116) i = if i = N + M then 1 else hr.2.1 (.inl 116) i) (g117 : ∀ i, gr.2.1 (.inl 117) i = if i = N + M then w else hr.2.1 (.inl 117) i) (g12 : rD gr (.inl 105) 12 = ((N + M + 1 : Nat) : Int)) (hde : e.toInt ≤ d.toInt) : rj_J gc gr S C N (M + 1) ∧ ∀ u' v', u' < 6 → v' < 6 → ¬ gr.2.1 (.inl 113) (36 * S + 6 * u' + v') = 0 → (u' = u ∧ v' = v) ∨ (u' = v ∧ v' = u) ∨ ¬ hr.2.1 (.inl 113) (36 * S + 6 * u' + v') = 0 := by
  obtain ⟨C6, j1, j2, j3, j4, j5⟩ := J
  have u6 : u < 6 := Nat.lt_of_lt_of_le hu C6
  have v6 : v < 6 := Nat.lt_of_lt_of_le hv C6
  have nz : ∀ (i m : Nat), rD hr (.inl 113) i = ((m + 1 : Nat) : Int) → ¬ hr.2.1 (.inl 113) i = 0 := fun i m t z => by
    unfold rD at t
    rw [z, k_0] at t
    omega
  have bn : ¬ bo = 0 := i_ne hbo k_0 (by omega)
  have old : ∀ q u' v', q < M → rs_k hc hr S C N q u' v' → rs_k gc gr S C N q u' v' := fun q u' v' hq Q => by
    obtain ⟨o1, o2, o3, o4, o5, o6, o7, o8, o9, o10, o11, o12⟩ := Q
    have ne : ¬ q = M := Nat.ne_of_lt hq
    have ne2 : ¬ N + q = N + M := fun t => ne (Nat.add_left_cancel t)
    have m1 : ¬ 36 * S + 6 * u' + v' = 36 * S + 6 * v + u := fun t => nz _ _ o6 (by rw [t]; exact z2)
    have m2 : ¬ 36 * S + 6 * u' + v' = 36 * S + 6 * u + v := fun t => nz _ _ o6 (by rw [t]; exact z1)
    have m3 : ¬ 36 * S + 6 * v' + u' = 36 * S + 6 * v + u := fun t => nz _ _ o7 (by rw [t]; exact z2)
    have m4 : ¬ 36 * S + 6 * v' + u' = 36 * S + 6 * u + v := fun t => nz _ _ o7 (by rw [t]; exact z1)
    unfold rs_k
    exact ⟨o1, o2, o3, (congrArg Int32.toInt ((c5 q).trans (if_neg ne))).trans o4, (congrArg Int32.toInt ((c6 q).trans (if_neg ne))).trans o5, (congrArg Int32.toInt ((g113 _).trans ((if_neg m1).trans (if_neg m2)))).trans o6, (congrArg Int32.toInt ((g113 _).trans ((if_neg m3).trans (if_neg m4)))).trans o7,
      ((g111 _).trans ((if_neg m1).trans (if_neg m2))).trans (o8.trans ((c7 q).trans (if_neg ne)).symm), ((g111 _).trans ((if_neg m3).trans (if_neg m4))).trans (o9.trans ((c7 q).trans (if_neg ne)).symm),
      ((g112 _).trans ((if_neg m1).trans (if_neg m2))).trans (o10.trans ((c8 q).trans (if_neg ne)).symm), ((g112 _).trans ((if_neg m3).trans (if_neg m4))).trans (o11.trans ((c8 q).trans (if_neg ne)).symm),
      (congrArg Int32.toInt ((g117 _).trans (if_neg ne2))).trans o12.1, by
        unfold rD
        rw [(c8 q).trans (if_neg ne), (c7 q).trans (if_neg ne)]
        exact o12.2⟩
  have new : rs_k gc gr S C N M u v := by
    have m1 : ¬ 36 * S + 6 * u + v = 36 * S + 6 * v + u := rjm_m hn
    unfold rs_k
    exact ⟨hu, hv, hn, (congrArg Int32.toInt ((c5 M).trans (if_pos rfl))).trans hmn, (congrArg Int32.toInt ((c6 M).trans (if_pos rfl))).trans hmx, (congrArg Int32.toInt ((g113 _).trans ((if_neg m1).trans (if_pos rfl)))).trans hbo, (congrArg Int32.toInt ((g113 _).trans (if_pos rfl))).trans hbo,
      ((g111 _).trans ((if_neg m1).trans (if_pos rfl))).trans ((c7 M).trans (if_pos rfl)).symm, ((g111 _).trans (if_pos rfl)).trans ((c7 M).trans (if_pos rfl)).symm, ((g112 _).trans ((if_neg m1).trans (if_pos rfl))).trans ((c8 M).trans (if_pos rfl)).symm, ((g112 _).trans (if_pos rfl)).trans ((c8 M).trans (if_pos rfl)).symm,
      (congrArg Int32.toInt ((g117 _).trans (if_pos rfl))).trans hw, by
        unfold rD
        rw [(c8 M).trans (if_pos rfl), (c7 M).trans (if_pos rfl)]
        exact hde⟩
  refine ⟨⟨C6, c0, g12, fun q hq => ?_, fun u' v' hu' hv' => ?_, ?_⟩, fun u' v' hu' hv' t => ?_⟩
  · rw [g116]
    by_cases t : q = M
    · rw [if_pos (by omega), t]
      exact ⟨rfl, u, v, new⟩
    · rw [if_neg (by omega)]
      obtain ⟨b1, u', v', Q⟩ := j3 q (by omega)
      exact ⟨b1, u', v', old q u' v' (by omega) Q⟩
  · rw [g113]
    by_cases e1 : 36 * S + 6 * u' + v' = 36 * S + 6 * v + u
    · refine Or.inr ⟨M, Nat.lt_succ_self M, Or.inr ?_⟩
      have : u' = v ∧ v' = u := rjm_e v6 u6 hu' hv' e1
      rw [this.1, this.2]
      exact new
    · rw [if_neg e1]
      by_cases e2 : 36 * S + 6 * u' + v' = 36 * S + 6 * u + v
      · refine Or.inr ⟨M, Nat.lt_succ_self M, Or.inl ?_⟩
        have : u' = u ∧ v' = v := rjm_e u6 v6 hu' hv' e2
        rw [this.1, this.2]
        exact new
      · rw [if_neg e2]
        rcases j4 u' v' hu' hv' with z | ⟨q, q1, q2⟩
        · exact Or.inl z
        · refine Or.inr ⟨q, Nat.lt_succ_of_lt q1, ?_⟩
          rcases q2 with q2 | q2
          · exact Or.inl (old q _ _ q1 q2)
          · exact Or.inr (old q _ _ q1 q2)
  · rw [j5]
    obtain ⟨c0, h0, e0⟩ := sd_pair u6 v6 hn
    have lt : ∀ c ∈ sd_CL, c / 6 < 6 ∧ c / 6 < c % 6 := by decide +kernel
    have gg : ∀ c, rz_g gr S c = true ↔ (c = 6 * v + u ∨ c = 6 * u + v ∨ rz_g hr S c = true) := fun c => by
      unfold rz_g
      rw [decide_eq_true_iff, decide_eq_true_iff, g113]
      by_cases e1 : c = 6 * v + u
      · rw [if_pos (show 36 * S + c = 36 * S + 6 * v + u by rw [e1, Nat.add_assoc])]
        exact ⟨fun _ => Or.inl e1, fun _ => bn⟩
      · rw [if_neg (show ¬ 36 * S + c = 36 * S + 6 * v + u from fun t => e1 (Nat.add_left_cancel (t.trans (Nat.add_assoc _ _ _))))]
        by_cases e2 : c = 6 * u + v
        · rw [if_pos (show 36 * S + c = 36 * S + 6 * u + v by rw [e2, Nat.add_assoc])]
          exact ⟨fun _ => Or.inr (Or.inl e2), fun _ => bn⟩
        · rw [if_neg (show ¬ 36 * S + c = 36 * S + 6 * u + v from fun t => e2 (Nat.add_left_cancel (t.trans (Nat.add_assoc _ _ _))))]
          exact ⟨fun q => Or.inr (Or.inr q), fun q => q.elim (fun q => absurd q e1) (fun q => q.elim (fun q => absurd q e2) id)⟩
    have f0 : ¬ rz_g hr S c0 = true := fun q => by
      have q' := of_decide_eq_true q
      rcases e0 with rfl | rfl
      · exact q' (by rw [← Nat.add_assoc]; exact z1)
      · exact q' (by rw [← Nat.add_assoc]; exact z2)
    apply Nat.le_antisymm
    · exact sd_C_lt2 (fun c _ q => (gg c).mpr (Or.inr (Or.inr q))) h0 f0 ((gg c0).mpr (e0.elim (fun e => Or.inr (Or.inl e)) Or.inl))
    · refine sd_C_add1 (c := c0) sd_CLn (fun c hc1 e q => ?_)
      have l1 := lt c hc1
      have l2 := lt c0 h0
      rcases (gg c).mp q with q | q | q
      · exact absurd (rjm_c u6 v6 e0 l1 l2 (Or.inl q)) e
      · exact absurd (rjm_c u6 v6 e0 l1 l2 (Or.inr q)) e
      · exact q
  · rw [g113] at t
    by_cases e1 : 36 * S + 6 * u' + v' = 36 * S + 6 * v + u
    · exact Or.inr (Or.inl (rjm_e v6 u6 hu' hv' e1))
    · rw [if_neg e1] at t
      by_cases e2 : 36 * S + 6 * u' + v' = 36 * S + 6 * u + v
      · exact Or.inl (rjm_e u6 v6 hu' hv' e2)
      · rw [if_neg e2] at t
        exact Or.inr (Or.inr t)
/-- the reference's piece more: set, then born -/
theorem R_add {s x y d e : Int32} {u v : Nat} (hs : s.toInt = (S : Int)) (hx : x.toInt = (u : Int)) (hy : y.toInt = (v : Int)) (hN : rD hr (.inl 105) 12 = N) (S12 : S ≤ 12) (hu : u < 6) (hv : v < 6) (hn : u ≠ v) (hG : gr = f193 s x y (f181 s x y (hr.2.1 (.inl 105) 12) d e hr)) :
    gr.1 = hr.1 ∧ gr.2.2 = hr.2.2 ∧ (∀ q i, gr.2.1 (.inr q) i = hr.2.1 (.inr q) i) ∧ (∀ i, gr.2.1 (.inl 113) i = if i = 36 * S + 6 * v + u then hr.2.1 (.inl 105) 12 + 1 else if i = 36 * S + 6 * u + v then hr.2.1 (.inl 105) 12 + 1 else hr.2.1 (.inl 113) i) ∧
    (∀ i, gr.2.1 (.inl 111) i = if i = 36 * S + 6 * v + u then d else if i = 36 * S + 6 * u + v then d else hr.2.1 (.inl 111) i) ∧ (∀ i, gr.2.1 (.inl 112) i = if i = 36 * S + 6 * v + u then e else if i = 36 * S + 6 * u + v then e else hr.2.1 (.inl 112) i) ∧
    (∀ i, gr.2.1 (.inl 116) i = if i = N then 1 else hr.2.1 (.inl 116) i) ∧ (∀ i, gr.2.1 (.inl 117) i = if i = N then f179 s x y + 1 else hr.2.1 (.inl 117) i) ∧ gr.2.1 (.inl 105) 12 = hr.2.1 (.inl 105) 12 + 1 ∧ (∀ i, i ≠ 12 → gr.2.1 (.inl 105) i = hr.2.1 (.inl 105) i) ∧
    ∀ q i, q ≠ 105 → q ≠ 111 → q ≠ 112 → q ≠ 113 → q ≠ 116 → q ≠ 117 → gr.2.1 (.inl q) i = hr.2.1 (.inl q) i := by
  have m1 : ¬ 36 * S + 6 * u + v = 36 * S + 6 * v + u := by omega
  rw [k181 hs hx hy S12 hu hv] at hG
  generalize hh : k_p (k_p hr (36 * S + 6 * u + v) (hr.2.1 (.inl 105) 12) d e) (36 * S + 6 * v + u) (hr.2.1 (.inl 105) 12) d e = h at hG
  have t12 : h.2.1 (.inl 105) 12 = hr.2.1 (.inl 105) 12 := by
    rw [← hh]
    rfl
  have t113 : ∀ i, h.2.1 (.inl 113) i = if i = 36 * S + 6 * v + u then hr.2.1 (.inl 105) 12 + 1 else if i = 36 * S + 6 * u + v then hr.2.1 (.inl 105) 12 + 1 else hr.2.1 (.inl 113) i := fun i => by rw [← hh, k_p3, k_p3]
  have t111 : ∀ i, h.2.1 (.inl 111) i = if i = 36 * S + 6 * v + u then d else if i = 36 * S + 6 * u + v then d else hr.2.1 (.inl 111) i := fun i => by rw [← hh, k_p1, k_p1]
  have t112 : ∀ i, h.2.1 (.inl 112) i = if i = 36 * S + 6 * v + u then e else if i = 36 * S + 6 * u + v then e else hr.2.1 (.inl 112) i := fun i => by rw [← hh, k_p2, k_p2]
  have d1 : h.2.1 (.inl 111) (36 * S + 6 * u + v) = d := by rw [t111, if_neg m1, if_pos rfl]
  have d2 : h.2.1 (.inl 112) (36 * S + 6 * u + v) = e := by rw [t112, if_neg m1, if_pos rfl]
  rw [R193 hs hx hy (show rD h (.inl 105) 12 = N by unfold rD; rw [t12]; exact hN) S12 hu hv, d1, d2, t12] at hG
  refine ⟨?_, ?_, fun q i => ?_, fun i => ?_, fun i => ?_, fun i => ?_, fun i => ?_, fun i => ?_, ?_, fun i hi => ?_, fun q i q0 q1 q2 q3 q4 q5 => ?_⟩
  · rw [hG, ← hh]
    rfl
  · rw [hG, ← hh]
    rfl
  · rw [hG, ← hh]
    rfl
  · rw [hG]
    show (k_p (k_p (mx_uI (mx_uI h (.inl 116) N 1) (.inl 117) N (f179 s x y + 1)) (36 * S + 6 * u + v) (hr.2.1 (.inl 105) 12) d e) (36 * S + 6 * v + u) (hr.2.1 (.inl 105) 12) d e).2.1 (.inl 113) i = _
    rw [k_p3, k_p3]
    show (if i = 36 * S + 6 * v + u then hr.2.1 (.inl 105) 12 + 1 else if i = 36 * S + 6 * u + v then hr.2.1 (.inl 105) 12 + 1 else h.2.1 (.inl 113) i) = _
    rw [t113]
    by_cases e1 : i = 36 * S + 6 * v + u
    · rw [if_pos e1, if_pos e1]
    · rw [if_neg e1, if_neg e1]
      by_cases e2 : i = 36 * S + 6 * u + v
      · rw [if_pos e2, if_pos e2]
      · rw [if_neg e2, if_neg e2]
  · rw [hG]
    show (k_p (k_p (mx_uI (mx_uI h (.inl 116) N 1) (.inl 117) N (f179 s x y + 1)) (36 * S + 6 * u + v) (hr.2.1 (.inl 105) 12) d e) (36 * S + 6 * v + u) (hr.2.1 (.inl 105) 12) d e).2.1 (.inl 111) i = _
    rw [k_p1, k_p1]
    show (if i = 36 * S + 6 * v + u then d else if i = 36 * S + 6 * u + v then d else h.2.1 (.inl 111) i) = _
    rw [t111]
    by_cases e1 : i = 36 * S + 6 * v + u
    · rw [if_pos e1, if_pos e1]
    · rw [if_neg e1, if_neg e1]
      by_cases e2 : i = 36 * S + 6 * u + v
      · rw [if_pos e2, if_pos e2]
      · rw [if_neg e2, if_neg e2]
  · rw [hG]
    show (k_p (k_p (mx_uI (mx_uI h (.inl 116) N 1) (.inl 117) N (f179 s x y + 1)) (36 * S + 6 * u + v) (hr.2.1 (.inl 105) 12) d e) (36 * S + 6 * v + u) (hr.2.1 (.inl 105) 12) d e).2.1 (.inl 112) i = _
    rw [k_p2, k_p2]
    show (if i = 36 * S + 6 * v + u then e else if i = 36 * S + 6 * u + v then e else h.2.1 (.inl 112) i) = _
    rw [t112]
    by_cases e1 : i = 36 * S + 6 * v + u
    · rw [if_pos e1, if_pos e1]
    · rw [if_neg e1, if_neg e1]
      by_cases e2 : i = 36 * S + 6 * u + v
      · rw [if_pos e2, if_pos e2]
      · rw [if_neg e2, if_neg e2]
  · rw [hG]
    show (mx_uI h (.inl 116) N 1).2.1 (.inl 116) i = _
    by_cases e1 : i = N
    · rw [if_pos e1, rI_c rfl e1]
    · rw [if_neg e1, rI_i e1, ← hh]
      rfl
  · rw [hG]
    show (mx_uI (mx_uI h (.inl 116) N 1) (.inl 117) N (f179 s x y + 1)).2.1 (.inl 117) i = _
    by_cases e1 : i = N
    · rw [if_pos e1, rI_c rfl e1]
    · rw [if_neg e1, rI_i e1, ← hh]
      rfl
  · rw [hG, rI_s]
  · rw [hG, rI_i hi, ← hh]
    rfl
  · rw [hG, rN q0, k_po q1 q2 q3, k_po q1 q2 q3, rN q5, rN q4, ← hh, k_po q1 q2 q3, k_po q1 q2 q3]
end RQ
