section RQ
variable {h hc hr gc gr : mx_H} {S N n C M k : Nat}
theorem rj_add {mn mx d e w bo : Int32} {u v : Nat} (J : rj_J hc hr S C N M) (hu : u < C) (hv : v < C) (hn : u ≠ v) (z1 : hr.2.1 (.inl 113) (36 * S + 6 * u + v) = 0) (z2 : hr.2.1 (.inl 113) (36 * S + 6 * v + u) = 0)
    (c5 : ∀ i, gc.2.1 (.inr (S, 5)) i = if i = M then mn else hc.2.1 (.inr (S, 5)) i) (c6 : ∀ i, gc.2.1 (.inr (S, 6)) i = if i = M then mx else hc.2.1 (.inr (S, 6)) i) (c7 : ∀ i, gc.2.1 (.inr (S, 7)) i = if i = M then d else hc.2.1 (.inr (S, 7)) i) (c8 : ∀ i, gc.2.1 (.inr (S, 8)) i = if i = M then e else hc.2.1 (.inr (S, 8)) i)
    (c0 : rD gc (.inr (S, 0)) 6 = ((M + 1 : Nat) : Int)) (hmn : mn.toInt = ((min u v : Nat) : Int)) (hmx : mx.toInt = ((max u v : Nat) : Int)) (hbo : bo.toInt = ((N + M + 1 : Nat) : Int)) (hw : w.toInt = ((36 * S + 6 * u + v + 1 : Nat) : Int))
    (g113 : ∀ i, gr.2.1 (.inl 113) i = if i = 36 * S + 6 * v + u then bo else if i = 36 * S + 6 * u + v then bo else hr.2.1 (.inl 113) i) (g111 : ∀ i, gr.2.1 (.inl 111) i = if i = 36 * S + 6 * v + u then d else if i = 36 * S + 6 * u + v then d else hr.2.1 (.inl 111) i) (g112 : ∀ i, gr.2.1 (.inl 112) i = if i = 36 * S + 6 * v + u then e else if i = 36 * S + 6 * u + v then e else hr.2.1 (.inl 112) i)
    (g116 : ∀ i, gr.2.1 (.inl 116) i = if i = N + M then 1 else hr.2.1 (.inl 116) i) (g117 : ∀ i, gr.2.1 (.inl 117) i = if i = N + M then w else hr.2.1 (.inl 117) i) (g12 : rD gr (.inl 105) 12 = ((N + M + 1 : Nat) : Int)) (hde : e.toInt ≤ d.toInt) : rj_J gc gr S C N (M + 1) ∧ ∀ u' v', u' < 6 → v' < 6 → ¬ gr.2.1 (.inl 113) (36 * S + 6 * u' + v') = 0 → (u' = u ∧ v' = v) ∨ (u' = v ∧ v' = u) ∨ ¬ hr.2.1 (.inl 113) (36 * S + 6 * u' + v') = 0 := by
  obtain ⟨C6, j1, j2, j3, j4, j5⟩ := J
  have u6 : u < 6 := Nat.lt_of_lt_of_le hu C6
  have v6 : v < 6 := Nat.lt_of_lt_of_le hv C6
  have nz : ∀ (i m : Nat), rD hr (.inl 113) i = ((m + 1 : Nat) : Int) → ¬ hr.2.1 (.inl 113) i = 0 := fun i m t z => by
    unfold rD at t
    rw [z, k_0] at t
    omega
  have bn : ¬ bo = 0 := i_ne hbo k_0 (by omega)
  have old : ∀ q u' v', q < M → rs_k hc hr S C N q u' v' → rs_k gc gr S C N q u' v' := fun q u' v' hq Q => by
    obtain ⟨o1, o2, o3, o4, o5, o6, o7, o8, o9, o10, o11, o12⟩ := Q
    have ne : ¬ q = M := Nat.ne_of_lt hq
    have ne2 : ¬ N + q = N + M := fun t => ne (Nat.add_left_cancel t)
    have m1 : ¬ 36 * S + 6 * u' + v' = 36 * S + 6 * v + u := fun t => nz _ _ o6 (by rw [t]; exact z2)
    have m2 : ¬ 36 * S + 6 * u' + v' = 36 * S + 6 * u + v := fun t => nz _ _ o6 (by rw [t]; exact z1)
    have m3 : ¬ 36 * S + 6 * v' + u' = 36 * S + 6 * v + u := fun t => nz _ _ o7 (by rw [t]; exact z2)
    have m4 : ¬ 36 * S + 6 * v' + u' = 36 * S + 6 * u + v := fun t => nz _ _ o7 (by rw [t]; exact z1)
    unfold rs_k
    exact ⟨o1, o2, o3, (congrArg Int32.toInt ((c5 q).trans (if_neg ne))).trans o4, (congrArg Int32.toInt ((c6 q).trans (if_neg ne))).trans o5, (congrArg Int32.toInt ((g113 _).trans ((if_neg m1).trans (if_neg m2)))).trans o6, (congrArg Int32.toInt ((g113 _).trans ((if_neg m3).trans (if_neg m4)))).trans o7,
      ((g111 _).trans ((if_neg m1).trans (if_neg m2))).trans (o8.trans ((c7 q).trans (if_neg ne)).symm), ((g111 _).trans ((if_neg m3).trans (if_neg m4))).trans (o9.trans ((c7 q).trans (if_neg ne)).symm),
      ((g112 _).trans ((if_neg m1).trans (if_neg m2))).trans (o10.trans ((c8 q).trans (if_neg ne)).symm), ((g112 _).trans ((if_neg m3).trans (if_neg m4))).trans (o11.trans ((c8 q).trans (if_neg ne)).symm),
      (congrArg Int32.toInt ((g117 _).trans (if_neg ne2))).trans o12.1, by
        unfold rD
        rw [(c8 q).trans (if_neg ne), (c7 q).trans (if_neg ne)]
        exact o12.2⟩
  have new : rs_k gc gr S C N M u v := by
    have m1 : ¬ 36 * S + 6 * u + v = 36 * S + 6 * v + u := rjm_m hn
    unfold rs_k
    exact ⟨hu, hv, hn, (congrArg Int32.toInt ((c5 M).trans (if_pos rfl))).trans hmn, (congrArg Int32.toInt ((c6 M).trans (if_pos rfl))).trans hmx, (congrArg Int32.toInt ((g113 _).trans ((if_neg m1).trans (if_pos rfl)))).trans hbo, (congrArg Int32.toInt ((g113 _).trans (if_pos rfl))).trans hbo,
      ((g111 _).trans ((if_neg m1).trans (if_pos rfl))).trans ((c7 M).trans (if_pos rfl)).symm, ((g111 _).trans (if_pos rfl)).trans ((c7 M).trans (if_pos rfl)).symm, ((g112 _).trans ((if_neg m1).trans (if_pos rfl))).trans ((c8 M).trans (if_pos rfl)).symm, ((g112 _).trans (if_pos rfl)).trans ((c8 M).trans (if_pos rfl)).symm,
      (congrArg Int32.toInt ((g117 _).trans (if_pos rfl))).trans hw, by
        unfold rD
        rw [(c8 M).trans (if_pos rfl), (c7 M).trans (if_pos rfl)]
        exact hde⟩
  refine ⟨⟨C6, c0, g12, fun q hq => ?_, fun u' v' hu' hv' => ?_, ?_⟩, fun u' v' hu' hv' t => ?_⟩
  · rw [g116]
    by_cases t : q = M
    · rw [if_pos (by omega), t]
      exact ⟨rfl, u, v, new⟩
    · rw [if_neg (by omega)]
      obtain ⟨b1, u', v', Q⟩ := j3 q (by omega)
      exact ⟨b1, u', v', old q u' v' (by omega) Q⟩
  · rw [g113]
    by_cases e1 : 36 * S + 6 * u' + v' = 36 * S + 6 * v + u
    · refine Or.inr ⟨M, Nat.lt_succ_self M, Or.inr ?_⟩
      have : u' = v ∧ v' = u := rjm_e v6 u6 hu' hv' e1
      rw [this.1, this.2]
      exact new
    · rw [if_neg e1]
      by_cases e2 : 36 * S + 6 * u' + v' = 36 * S + 6 * u + v
      · refine Or.inr ⟨M, Nat.lt_succ_self M, Or.inl ?_⟩
        have : u' = u ∧ v' = v := rjm_e u6 v6 hu' hv' e2
        rw [this.1, this.2]
        exact new
      · rw [if_neg e2]
        rcases j4 u' v' hu' hv' with z | ⟨q, q1, q2⟩
        · exact Or.inl z
        · refine Or.inr ⟨q, Nat.lt_succ_of_lt q1, ?_⟩
          rcases q2 with q2 | q2
          · exact Or.inl (old q _ _ q1 q2)
          · exact Or.inr (old q _ _ q1 q2)
  · rw [j5]
    obtain ⟨c0, h0, e0⟩ := sd_pair u6 v6 hn
    have lt : ∀ c ∈ sd_CL, c / 6 < 6 ∧ c / 6 < c % 6 := by decide +kernel
    have gg : ∀ c, rz_g gr S c = true ↔ (c = 6 * v + u ∨ c = 6 * u + v ∨ rz_g hr S c = true) := fun c => by
      unfold rz_g
      rw [decide_eq_true_iff, decide_eq_true_iff, g113]
      by_cases e1 : c = 6 * v + u
      · rw [if_pos (show 36 * S + c = 36 * S + 6 * v + u by rw [e1, Nat.add_assoc])]
        exact ⟨fun _ => Or.inl e1, fun _ => bn⟩
      · rw [if_neg (show ¬ 36 * S + c = 36 * S + 6 * v + u from fun t => e1 (Nat.add_left_cancel (t.trans (Nat.add_assoc _ _ _))))]
        by_cases e2 : c = 6 * u + v
        · rw [if_pos (show 36 * S + c = 36 * S + 6 * u + v by rw [e2, Nat.add_assoc])]
          exact ⟨fun _ => Or.inr (Or.inl e2), fun _ => bn⟩
        · rw [if_neg (show ¬ 36 * S + c = 36 * S + 6 * u + v from fun t => e2 (Nat.add_left_cancel (t.trans (Nat.add_assoc _ _ _))))]
          exact ⟨fun q => Or.inr (Or.inr q), fun q => q.elim (fun q => absurd q e1) (fun q => q.elim (fun q => absurd q e2) id)⟩
    have f0 : ¬ rz_g hr S c0 = true := fun q => by
      have q' := of_decide_eq_true q
      rcases e0 with rfl | rfl
      · exact q' (by rw [← Nat.add_assoc]; exact z1)
      · exact q' (by rw [← Nat.add_assoc]; exact z2)
    apply Nat.le_antisymm
    · exact sd_C_lt2 (fun c _ q => (gg c).mpr (Or.inr (Or.inr q))) h0 f0 ((gg c0).mpr (e0.elim (fun e => Or.inr (Or.inl e)) Or.inl))
    · refine sd_C_add1 (c := c0) sd_CLn (fun c hc1 e q => ?_)
      have l1 := lt c hc1
      have l2 := lt c0 h0
      rcases (gg c).mp q with q | q | q
      · exact absurd (rjm_c u6 v6 e0 l1 l2 (Or.inl q)) e
      · exact absurd (rjm_c u6 v6 e0 l1 l2 (Or.inr q)) e
      · exact q
  · rw [g113] at t
    by_cases e1 : 36 * S + 6 * u' + v' = 36 * S + 6 * v + u
    · exact Or.inr (Or.inl (rjm_e v6 u6 hu' hv' e1))
    · rw [if_neg e1] at t
      by_cases e2 : 36 * S + 6 * u' + v' = 36 * S + 6 * u + v
      · exact Or.inl (rjm_e u6 v6 hu' hv' e2)
      · rw [if_neg e2] at t
        exact Or.inr (Or.inr t)
end RQ
