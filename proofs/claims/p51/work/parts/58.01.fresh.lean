/-! ===== a part, corners, the whole text: read alike ===== -/
section RW
variable {hc hr h : mx_H} {L p S C n k : Nat}
/-! numbers, apart from the heaps -/
theorem rzn_c {c c0 u v : Nat} (hu : u < 6) (hv : v < 6) (e0 : c0 = 6 * u + v ∨ c0 = 6 * v + u) (l1 : c / 6 < 6 ∧ c / 6 < c % 6) (l2 : c0 / 6 < 6 ∧ c0 / 6 < c0 % 6) (q : c = 6 * v + u ∨ c = 6 * u + v) : c = c0 := by
  rcases q with q | q
  · have d1 : c / 6 = v := by omega
    have d2 : c % 6 = u := by omega
    rcases e0 with e0 | e0
    · exfalso
      have d3 : c0 / 6 = u := by omega
      have d4 : c0 % 6 = v := by omega
      omega
    · omega
  · have d1 : c / 6 = u := by omega
    have d2 : c % 6 = v := by omega
    rcases e0 with e0 | e0
    · omega
    · exfalso
      have d3 : c0 / 6 = v := by omega
      have d4 : c0 % 6 = u := by omega
      omega
theorem rzn_m {u v : Nat} (hn : u ≠ v) : ¬ 36 * S + 6 * u + v = 36 * S + 6 * v + u := by omega
theorem rzn_e {u v u' v' : Nat} (hu : u < 6) (hv : v < 6) (hu' : u' < 6) (hv' : v' < 6) (e : 36 * S + 6 * u' + v' = 36 * S + 6 * u + v) : u' = u ∧ v' = v := by omega
theorem rzn_o {u v c0 : Nat} (e0 : c0 = 6 * u + v ∨ c0 = 6 * v + u) : c0 = 6 * v + u ∨ c0 = 6 * u + v := e0.symm
/-- a piece more: what both sides hold then -/
theorem rz_new {g : mx_H} {x y d : Int32} {u v : Nat} (K : rz_C hc hr S C n) (hx : x.toInt = (u : Int)) (hy : y.toInt = (v : Int)) (hu : u < C) (hv : v < C) (hn : u ≠ v) (z1 : hr.2.1 (.inl 113) (36 * S + 6 * u + v) = 0) (z2 : hr.2.1 (.inl 113) (36 * S + 6 * v + u) = 0) (n15 : n < 15)
    (hg : g = k_q (k_p (k_p hr (36 * S + 6 * u + v) 0 d 0) (36 * S + 6 * v + u) 0 d 0) x y) : rz_C (k_ap hc S n x y d) g S C (n + 1) := by
  obtain ⟨C6, k1, k2, k3, k4, k5, k6, kP1, kP2, kP3, kP4⟩ := K
  have u6 : u < 6 := Nat.lt_of_lt_of_le hu C6
  have v6 : v < 6 := Nat.lt_of_lt_of_le hv C6
  subst hg
  have e19 : (k_p (k_p hr (36 * S + 6 * u + v) 0 d 0) (36 * S + 6 * v + u) 0 d 0).2.1 (.inl 105) 19 = hr.2.1 (.inl 105) 19 := rfl
  have cl : Int32.toNatClampNeg (hr.2.1 (.inl 105) 19) = n := i_cl k4
  have hG : k_q (k_p (k_p hr (36 * S + 6 * u + v) 0 d 0) (36 * S + 6 * v + u) 0 d 0) x y = mx_uI (mx_uI (mx_uI (k_p (k_p hr (36 * S + 6 * u + v) 0 d 0) (36 * S + 6 * v + u) 0 d 0) (.inl 119) n x) (.inl 120) n y) (.inl 105) 19 (hr.2.1 (.inl 105) 19 + 1) := by
    unfold k_q
    rw [e19, cl]
  generalize hgg : k_q (k_p (k_p hr (36 * S + 6 * u + v) 0 d 0) (36 * S + 6 * v + u) 0 d 0) x y = g at hG ⊢
  have g113 : ∀ i, g.2.1 (.inl 113) i = if i = 36 * S + 6 * v + u then 1 else if i = 36 * S + 6 * u + v then 1 else hr.2.1 (.inl 113) i := fun i => by
    rw [hG]
    show (k_p (k_p hr (36 * S + 6 * u + v) 0 d 0) (36 * S + 6 * v + u) 0 d 0).2.1 (.inl 113) i = _
    rw [k_p3, k_p3]
    rfl
  have g111 : ∀ i, g.2.1 (.inl 111) i = if i = 36 * S + 6 * v + u then d else if i = 36 * S + 6 * u + v then d else hr.2.1 (.inl 111) i := fun i => by
    rw [hG]
    show (k_p (k_p hr (36 * S + 6 * u + v) 0 d 0) (36 * S + 6 * v + u) 0 d 0).2.1 (.inl 111) i = _
    rw [k_p1, k_p1]
  have g112 : ∀ i, g.2.1 (.inl 112) i = if i = 36 * S + 6 * v + u then 0 else if i = 36 * S + 6 * u + v then 0 else hr.2.1 (.inl 112) i := fun i => by
    rw [hG]
    show (k_p (k_p hr (36 * S + 6 * u + v) 0 d 0) (36 * S + 6 * v + u) 0 d 0).2.1 (.inl 112) i = _
    rw [k_p2, k_p2]
  have g119 : ∀ i, g.2.1 (.inl 119) i = if i = n then x else hr.2.1 (.inl 119) i := fun i => by
    rw [hG]
    show (mx_uI (k_p (k_p hr (36 * S + 6 * u + v) 0 d 0) (36 * S + 6 * v + u) 0 d 0) (.inl 119) n x).2.1 (.inl 119) i = _
    by_cases e : i = n
    · rw [if_pos e, rI_c rfl e]
    · rw [if_neg e, rI_i e]
      rfl
  have g120 : ∀ i, g.2.1 (.inl 120) i = if i = n then y else hr.2.1 (.inl 120) i := fun i => by
    rw [hG]
    show (mx_uI (mx_uI (k_p (k_p hr (36 * S + 6 * u + v) 0 d 0) (36 * S + 6 * v + u) 0 d 0) (.inl 119) n x) (.inl 120) n y).2.1 (.inl 120) i = _
    by_cases e : i = n
    · rw [if_pos e, rI_c rfl e]
    · rw [if_neg e, rI_i e]
      rfl
  have go : ∀ q i, q ≠ 111 → q ≠ 112 → q ≠ 113 → q ≠ 119 → q ≠ 120 → q ≠ 105 → g.2.1 (.inl q) i = hr.2.1 (.inl q) i := fun q i q1 q2 q3 q4 q5 q6 => by
    rw [hG, rN q6, rN q5, rN q4, k_po q1 q2 q3, k_po q1 q2 q3]
  have old : ∀ q u' v', q < n → rz_k hc hr S C q u' v' → rz_k (k_ap hc S n x y d) g S C q u' v' := fun q u' v' hq Q => by
    obtain ⟨o1, o2, o3, o4, o5, o6, o7, o8, o9, o10, o11, o12, o13, o14⟩ := Q
    have ne : ¬ q = n := Nat.ne_of_lt hq
    have m1 : ¬ 36 * S + 6 * u' + v' = 36 * S + 6 * v + u := fun e => by
      rw [e, z2] at o8
      exact absurd o8 (by decide +kernel)
    have m2 : ¬ 36 * S + 6 * u' + v' = 36 * S + 6 * u + v := fun e => by
      rw [e, z1] at o8
      exact absurd o8 (by decide +kernel)
    have m3 : ¬ 36 * S + 6 * v' + u' = 36 * S + 6 * v + u := fun e => by
      rw [e, z2] at o9
      exact absurd o9 (by decide +kernel)
    have m4 : ¬ 36 * S + 6 * v' + u' = 36 * S + 6 * u + v := fun e => by
      rw [e, z1] at o9
      exact absurd o9 (by decide +kernel)
    unfold rz_k
    exact ⟨o1, o2, o3, (congrArg Int32.toInt ((g119 q).trans (if_neg ne))).trans o4, (congrArg Int32.toInt ((g120 q).trans (if_neg ne))).trans o5, (congrArg Int32.toInt ((ka5 (h := hc) (S := S) (n := n) (a := x) (b := y) (d := d) (k := q)).trans (if_neg ne))).trans o6, (congrArg Int32.toInt ((ka6 (h := hc) (S := S) (n := n) (a := x) (b := y) (d := d) (k := q)).trans (if_neg ne))).trans o7,
      (g113 _).trans ((if_neg m1).trans ((if_neg m2).trans o8)), (g113 _).trans ((if_neg m3).trans ((if_neg m4).trans o9)), ((g111 _).trans ((if_neg m1).trans (if_neg m2))).trans (o10.trans ((ka7 (h := hc) (S := S) (n := n) (a := x) (b := y) (d := d) (k := q)).trans (if_neg ne)).symm), ((g111 _).trans ((if_neg m3).trans (if_neg m4))).trans (o11.trans ((ka7 (h := hc) (S := S) (n := n) (a := x) (b := y) (d := d) (k := q)).trans (if_neg ne)).symm),
      (g112 _).trans ((if_neg m1).trans ((if_neg m2).trans o12)), (g112 _).trans ((if_neg m3).trans ((if_neg m4).trans o13)), ((ka8 (h := hc) (S := S) (n := n) (a := x) (b := y) (d := d) (k := q)).trans (if_neg ne)).trans o14⟩
  have new : rz_k (k_ap hc S n x y d) g S C n u v := by
    have m1 : ¬ 36 * S + 6 * u + v = 36 * S + 6 * v + u := rzn_m hn
    unfold rz_k
    exact ⟨hu, hv, hn, (congrArg Int32.toInt ((g119 n).trans (if_pos rfl))).trans hx, (congrArg Int32.toInt ((g120 n).trans (if_pos rfl))).trans hy, (congrArg Int32.toInt ((ka5 (h := hc) (S := S) (n := n) (a := x) (b := y) (d := d) (k := n)).trans (if_pos rfl))).trans (k_mn_v hx hy), (congrArg Int32.toInt ((ka6 (h := hc) (S := S) (n := n) (a := x) (b := y) (d := d) (k := n)).trans (if_pos rfl))).trans (k_mx_v hx hy),
      (g113 _).trans ((if_neg m1).trans (if_pos rfl)), (g113 _).trans (if_pos rfl), ((g111 _).trans ((if_neg m1).trans (if_pos rfl))).trans ((ka7 (h := hc) (S := S) (n := n) (a := x) (b := y) (d := d) (k := n)).trans (if_pos rfl)).symm, ((g111 _).trans (if_pos rfl)).trans ((ka7 (h := hc) (S := S) (n := n) (a := x) (b := y) (d := d) (k := n)).trans (if_pos rfl)).symm, (g112 _).trans ((if_neg m1).trans (if_pos rfl)), (g112 _).trans (if_pos rfl), (ka8 (h := hc) (S := S) (n := n) (a := x) (b := y) (d := d) (k := n)).trans (if_pos rfl)⟩
  refine ⟨C6, ?_, ?_, ?_, ?_, fun c q => ?_, fun c q => ?_, fun q hq => ?_, fun u' v' hu' hv' => ?_, ?_, fun q q' u' v' hq hq' ne Q => ?_⟩
  · unfold rD
    rw [ka0, if_neg (by decide +kernel)]
    exact k1
  · unfold rD
    rw [go 106 S (by decide +kernel) (by decide +kernel) (by decide +kernel) (by decide +kernel) (by decide +kernel) (by decide +kernel)]
    exact k2
  · unfold rD
    rw [ka0, if_pos rfl, i_add k3 k_1 (by omega) (by omega)]
    omega
  · unfold rD
    rw [hG, rI_s, i_add k4 k_1 (by omega) (by omega)]
    omega
  · rw [kao (by decide +kernel) (by decide +kernel) (by decide +kernel) (by decide +kernel) (by decide +kernel), go 107 _ (by decide +kernel) (by decide +kernel) (by decide +kernel) (by decide +kernel) (by decide +kernel) (by decide +kernel)]
    exact k5 c q
  · rw [kao (o := 2) (by decide +kernel) (by decide +kernel) (by decide +kernel) (by decide +kernel) (by decide +kernel), kao (o := 3) (by decide +kernel) (by decide +kernel) (by decide +kernel) (by decide +kernel) (by decide +kernel), kao (o := 4) (by decide +kernel) (by decide +kernel) (by decide +kernel) (by decide +kernel) (by decide +kernel), go 108 _ (by decide +kernel) (by decide +kernel) (by decide +kernel) (by decide +kernel) (by decide +kernel) (by decide +kernel), go 109 _ (by decide +kernel) (by decide +kernel) (by decide +kernel) (by decide +kernel) (by decide +kernel) (by decide +kernel), go 110 _ (by decide +kernel) (by decide +kernel) (by decide +kernel) (by decide +kernel) (by decide +kernel) (by decide +kernel), go 121 _ (by decide +kernel) (by decide +kernel) (by decide +kernel) (by decide +kernel) (by decide +kernel) (by decide +kernel), go 122 _ (by decide +kernel) (by decide +kernel) (by decide +kernel) (by decide +kernel) (by decide +kernel) (by decide +kernel)]
    exact k6 c q
  · by_cases e : q = n
    · subst e
      exact ⟨u, v, new⟩
    · obtain ⟨u', v', Q⟩ := kP1 q (by omega)
      exact ⟨u', v', old q u' v' (by omega) Q⟩
  · rw [g113]
    by_cases e1 : 36 * S + 6 * u' + v' = 36 * S + 6 * v + u
    · refine Or.inr ⟨n, Nat.lt_succ_self n, Or.inr ?_⟩
      have : u' = v ∧ v' = u := rzn_e v6 u6 hu' hv' e1
      rw [this.1, this.2]
      exact new
    · rw [if_neg e1]
      by_cases e2 : 36 * S + 6 * u' + v' = 36 * S + 6 * u + v
      · refine Or.inr ⟨n, Nat.lt_succ_self n, Or.inl ?_⟩
        have : u' = u ∧ v' = v := rzn_e u6 v6 hu' hv' e2
        rw [this.1, this.2]
        exact new
      · rw [if_neg e2]
        rcases kP2 u' v' hu' hv' with z | ⟨q, q1, q2⟩
        · exact Or.inl z
        · refine Or.inr ⟨q, Nat.lt_succ_of_lt q1, ?_⟩
          rcases q2 with q2 | q2
          · exact Or.inl (old q _ _ q1 q2)
          · exact Or.inr (old q _ _ q1 q2)
  · rw [kP3]
    obtain ⟨c0, h0, e0⟩ := sd_pair u6 v6 hn
    have lt : ∀ c ∈ sd_CL, c / 6 < 6 ∧ c / 6 < c % 6 := by decide +kernel
    have gg : ∀ c, rz_g g S c = true ↔ (c = 6 * v + u ∨ c = 6 * u + v ∨ rz_g hr S c = true) := fun c => by
      unfold rz_g
      rw [decide_eq_true_iff, decide_eq_true_iff, g113]
      by_cases e1 : c = 6 * v + u
      · rw [if_pos (show 36 * S + c = 36 * S + 6 * v + u by rw [e1, Nat.add_assoc])]
        exact ⟨fun _ => Or.inl e1, fun _ => n10⟩
      · rw [if_neg (show ¬ 36 * S + c = 36 * S + 6 * v + u from fun t => e1 (Nat.add_left_cancel (t.trans (Nat.add_assoc _ _ _))))]
        by_cases e2 : c = 6 * u + v
        · rw [if_pos (show 36 * S + c = 36 * S + 6 * u + v by rw [e2, Nat.add_assoc])]
          exact ⟨fun _ => Or.inr (Or.inl e2), fun _ => n10⟩
        · rw [if_neg (show ¬ 36 * S + c = 36 * S + 6 * u + v from fun t => e2 (Nat.add_left_cancel (t.trans (Nat.add_assoc _ _ _))))]
          exact ⟨fun q => Or.inr (Or.inr q), fun q => q.elim (fun q => absurd q e1) (fun q => q.elim (fun q => absurd q e2) id)⟩
    have f0 : ¬ rz_g hr S c0 = true := fun q => by
      have q' := of_decide_eq_true q
      rcases e0 with rfl | rfl
      · exact q' (by rw [← Nat.add_assoc]; exact z1)
      · exact q' (by rw [← Nat.add_assoc]; exact z2)
    apply Nat.le_antisymm
    · exact sd_C_lt2 (fun c _ q => (gg c).mpr (Or.inr (Or.inr q))) h0 f0 ((gg c0).mpr (e0.elim (fun e => Or.inr (Or.inl e)) Or.inl))
    · refine sd_C_add1 (c := c0) sd_CLn (fun c hc1 e q => ?_)
      have l1 := lt c hc1
      have l2 := lt c0 h0
      rcases (gg c).mp q with q | q | q
      · exact absurd (rzn_c u6 v6 e0 l1 l2 (Or.inl q)) e
      · exact absurd (rzn_c u6 v6 e0 l1 l2 (Or.inr q)) e
      · exact q
  · -- no pair twice
    have back : ∀ q u' v', q < n → rz_k (k_ap hc S n x y d) g S C q u' v' → rz_k hc hr S C q u' v' := fun q u' v' hq Q => by
      obtain ⟨u2, v2, Q2⟩ := kP1 q hq
      have e1 := Q.2.2.2.1
      have e2 := Q.2.2.2.2.1
      unfold rD at e1 e2
      rw [g119, if_neg (by omega)] at e1
      rw [g120, if_neg (by omega)] at e2
      have f1 := Q2.2.2.2.1
      have f2 := Q2.2.2.2.2.1
      unfold rD at f1 f2
      have h1 : u' = u2 := by omega
      have h2 : v' = v2 := by omega
      rw [h1, h2]
      exact Q2
    have top : ∀ u' v', rz_k (k_ap hc S n x y d) g S C n u' v' → u' = u ∧ v' = v := fun u' v' Q => by
      have e1 := Q.2.2.2.1
      have e2 := Q.2.2.2.2.1
      unfold rD at e1 e2
      rw [g119, if_pos rfl] at e1
      rw [g120, if_pos rfl] at e2
      omega
    have nope : ∀ q u' v', q < n → rz_k (k_ap hc S n x y d) g S C q u' v' → ¬ (u' = u ∧ v' = v) ∧ ¬ (u' = v ∧ v' = u) := fun q u' v' hq Q => by
      have b := rz_kb (back q u' v' hq Q)
      refine ⟨fun e => ?_, fun e => ?_⟩
      · have b1 := b.1
        rw [e.1, e.2, z1] at b1
        exact absurd b1 (by decide +kernel)
      · have b1 := b.1
        rw [e.1, e.2, z2] at b1
        exact absurd b1 (by decide +kernel)
    by_cases c1 : q = n
    · subst c1
      obtain ⟨rfl, rfl⟩ := top u' v' Q
      have lt : q' < q := by omega
      exact ⟨fun Q' => (nope q' _ _ lt Q').1 ⟨rfl, rfl⟩, fun Q' => (nope q' _ _ lt Q').2 ⟨rfl, rfl⟩⟩
    · have lt : q < n := by omega
      by_cases c2 : q' = n
      · subst c2
        refine ⟨fun Q' => ?_, fun Q' => ?_⟩
        · exact (nope q u' v' lt Q).1 (top u' v' Q')
        · have e := top v' u' Q'
          exact (nope q u' v' lt Q).2 ⟨e.2, e.1⟩
      · have lt' : q' < n := by omega
        have r := kP4 q q' u' v' lt lt' ne (back q u' v' lt Q)
        exact ⟨fun Q' => r.1 (back q' u' v' lt' Q'), fun Q' => r.2 (back q' v' u' lt' Q')⟩
theorem rz_FRq {g g0 : mx_H} {x y : Int32} (b : rz_FR S g0 g) : rz_FR S g0 (k_q g x y) := ((b.u (by unfold rz_w; omega)).u (by unfold rz_w; omega)).u (by unfold rz_w; omega)
theorem rz_FRp {g g0 : mx_H} {q : Nat} {x y z : Int32} (hq : 36 * S ≤ q ∧ q < 36 * S + 36) (b : rz_FR S g0 g) : rz_FR S g0 (k_p g q x y z) := ((b.u (by unfold rz_w; omega)).u (by unfold rz_w; omega)).u (by unfold rz_w; omega)
end RW
