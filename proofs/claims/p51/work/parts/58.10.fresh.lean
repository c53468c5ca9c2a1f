/-! ===== join(): answers and shapes alike ===== -/
section RCC
variable {h h' hc hr gc gr : mx_H} {S N s s1 s2 i j n C C1 C2 n1 n2 F1 F2 : Nat} {a a1 a2 a3 a4 sS : Int32}
theorem rj_J.x (p : ∀ o i, 5 ≤ o → o ≤ 8 → gc.2.1 (.inr (S, o)) i = hc.2.1 (.inr (S, o)) i) (p6 : gc.2.1 (.inr (S, 0)) 6 = hc.2.1 (.inr (S, 0)) 6) (p12 : gr.2.1 (.inl 105) 12 = hr.2.1 (.inl 105) 12) (q : ∀ k i, k = 111 ∨ k = 112 ∨ k = 113 ∨ k = 116 ∨ k = 117 → gr.2.1 (.inl k) i = hr.2.1 (.inl k) i) (J : rj_J hc hr S C N n) : rj_J gc gr S C N n := by
  have kx : ∀ m u v, rs_k hc hr S C N m u v → rs_k gc gr S C N m u v := fun m u v Q => by
    obtain ⟨o1, o2, o3, o4, o5, o6, o7, o8, o9, o10, o11, o12⟩ := Q
    unfold rs_k rD
    rw [p 5 m (by omega) (by omega), p 6 m (by omega) (by omega), p 7 m (by omega) (by omega), p 8 m (by omega) (by omega), q 113 (36 * S + 6 * u + v) (by omega), q 113 (36 * S + 6 * v + u) (by omega), q 111 (36 * S + 6 * u + v) (by omega), q 111 (36 * S + 6 * v + u) (by omega), q 112 (36 * S + 6 * u + v) (by omega), q 112 (36 * S + 6 * v + u) (by omega), q 117 (N + m) (by omega)]
    exact ⟨o1, o2, o3, o4, o5, o6, o7, o8, o9, o10, o11, o12⟩
  obtain ⟨j0, j1, j2, j3, j4, j5⟩ := J
  refine ⟨j0, ?_, ?_, fun m hm => ?_, fun u v hu hv => ?_, ?_⟩
  · unfold rD
    rw [p6]
    exact j1
  · unfold rD
    rw [p12]
    exact j2
  · rw [q 116 (N + m) (by omega)]
    obtain ⟨b, u, v, Q⟩ := j3 m hm
    exact ⟨b, u, v, kx m u v Q⟩
  · rw [q 113 (36 * S + 6 * u + v) (by omega)]
    rcases j4 u v hu hv with z | ⟨m, p1, p2⟩
    · exact Or.inl z
    · refine Or.inr ⟨m, p1, ?_⟩
      rcases p2 with p2 | p2
      · exact Or.inl (kx _ _ _ p2)
      · exact Or.inr (kx _ _ _ p2)
  · refine j5.trans ?_
    unfold sd_C
    congr 1
    refine List.filter_congr (fun c _ => ?_)
    unfold rz_g
    rw [q 113 (36 * S + c) (by omega)]
theorem x_opt_s {α : Type} {r : Option mx_A} {A : Nat → α} {B : α} (e : r = some (.inr (S, 0))) : x_opt (ml_sn r) A B = A S := by
  rw [e]
  rfl
/-- the class, where nothing is refused -/
theorem C142 (e1 : f166 a1 h = some s1) (e2 : f166 a2 h = some s2) (c3 : ¬ a3 < 0) (g1 : f164 s1 (a3 / 10) h = 1) (g2 : f164 s2 (a3 - a3 / 10 * 10) h = 1) (c4 : f157 a4 1 9 ≠ 0) (c6 : h.2.1 (.inr (s1, 0)) 0 + h.2.1 (.inr (s2, 0)) 0 ≤ 6) (cf : f168 (h.2.1 (.inr (s1, 0)) 6 + h.2.1 (.inr (s2, 0)) 6 + 1) h = 0)
    (d0 : h.2.2.2 (.inl 0) 3 = some (.inr (S, 0))) (d1 : (f59 S h).2.2.2 (.inl 0) 3 = some (.inr (S, 0))) (d2 : (f64 S s1 (f59 S h)).2.2.2 (.inl 0) 3 = some (.inr (S, 0))) (d3 : (f64 S s2 (f64 S s1 (f59 S h))).2.2.2 (.inl 0) 3 = some (.inr (S, 0)))
    (d4 : (f63 S (a3 / 10) ((f64 S s2 (f64 S s1 (f59 S h))).2.1 (.inr (s1, 0)) 0 + (a3 - a3 / 10 * 10)) a4 (f64 S s2 (f64 S s1 (f59 S h)))).2.2.2 (.inl 0) 3 = some (.inr (S, 0))) :
    f142 a1 a2 a3 a4 h = f169 (mx_uI (mx_uI (f63 S (a3 / 10) ((f64 S s2 (f64 S s1 (f59 S h))).2.1 (.inr (s1, 0)) 0 + (a3 - a3 / 10 * 10)) a4 (f64 S s2 (f64 S s1 (f59 S h)))) (.inr (S, 0)) 11 a1) (.inr (S, 0)) 12 a2) := by
  rw [f142_eq, e1, e2]
  show (if a3 < 0 then g142_53 h else _) = _
  rw [if_neg c3, if_neg (by rw [g1]; exact n10), if_neg (by rw [g2]; exact n10), if_pos c4, if_pos c6, if_pos cf]
  simp only [x_h, x_let]
  rw [x_opt_s d0, x_opt_s d1, x_opt_s d2, x_opt_s d3, x_opt_s d4, x_opt_s (show (mx_uI (f63 S (a3 / 10) ((f64 S s2 (f64 S s1 (f59 S h))).2.1 (.inr (s1, 0)) 0 + (a3 - a3 / 10 * 10)) a4 (f64 S s2 (f64 S s1 (f59 S h)))) (.inr (S, 0)) 11 a1).2.2.2 (.inl 0) 3 = some (.inr (S, 0)) from d4)]
theorem rj_J15 (J : rj_J hc hr S C N n) : n ≤ 15 := by
  rw [J.2.2.2.2.2]
  exact sd_C_15 _
/-- the draft stands: it becomes a shape -/
theorem rj_fin {M : Nat} {c5 r7 : mx_H} (A : rs_A hc hr S N) (q1 : S ≤ 11) (q2 : N + M ≤ 200) (M15 : M ≤ 15) (C1' : 1 ≤ C) (W5 : rz_FW S hc c5) (w7 : rw_r N S hr r7) (J2 : rj_J c5 r7 S C N M) (c5C : rD c5 (.inr (S, 0)) 0 = (C : Int)) (r7C : rD r7 (.inl 106) S = (C : Int)) (cor : ∀ x c, 1 ≤ x → x ≤ 4 → c < C → c5.2.1 (.inr (S, x)) c = r7.2.1 (.inl (106 + x)) (6 * S + c)) :
    (f169 (mx_uI (mx_uI c5 (.inr (S, 0)) 11 a1) (.inr (S, 0)) 12 a2)).1 = hr.2.1 (.inl 105) 1 ∧ rs_A (f169 (mx_uI (mx_uI c5 (.inr (S, 0)) 11 a1) (.inr (S, 0)) 12 a2)).2 (mx_uI (mx_uI (mx_uI r7 (.inl 114) S a1) (.inl 115) S a2) (.inl 105) 1 (r7.2.1 (.inl 105) 1 + 1)) (S + 1) (N + M) ∧ (∀ s, s < S → rs_ec s hc (f169 (mx_uI (mx_uI c5 (.inr (S, 0)) 11 a1) (.inr (S, 0)) 12 a2)).2) ∧ ∀ i, (f169 (mx_uI (mx_uI c5 (.inr (S, 0)) 11 a1) (.inr (S, 0)) 12 a2)).2.2.2.2 (.inl 85) i = hc.2.2.2 (.inl 85) i := by
  obtain ⟨A1, A2, A3, A4, A5, A6, A7, A8, A9, A10⟩ := id A
  have rf : ∀ {x : mx_H}, rz_FW S hc x → x.2.2.2 (.inl 0) 3 = some (.inr (S, 0)) := fun W => by
    rw [show _ = hc.2.2.2 from congrArg Prod.snd W.2.1]
    exact A8
  have W6 : rz_FW S hc (mx_uI (mx_uI (mx_uI c5 (.inr (S, 0)) 11 a1) (.inr (S, 0)) 12 a2) (.inr (S, 0)) 5 (c5.2.1 (.inl 90) 0)) := ((W5.s (by decide +kernel)).s (by decide +kernel)).s (by decide +kernel)
  have pi : ∀ i, i ≠ 5 → i ≠ 11 → i ≠ 12 → (mx_uI (mx_uI (mx_uI c5 (.inr (S, 0)) 11 a1) (.inr (S, 0)) 12 a2) (.inr (S, 0)) 5 (c5.2.1 (.inl 90) 0)).2.1 (.inr (S, 0)) i = c5.2.1 (.inr (S, 0)) i := fun i w1 w2 w3 => by rw [rI_i w1, rI_i w3, rI_i w2]
  have p11 : (mx_uI (mx_uI (mx_uI c5 (.inr (S, 0)) 11 a1) (.inr (S, 0)) 12 a2) (.inr (S, 0)) 5 (c5.2.1 (.inl 90) 0)).2.1 (.inr (S, 0)) 11 = a1 := by rw [rI_i (by decide +kernel), rI_i (by decide +kernel), rI_s]
  have p12 : (mx_uI (mx_uI (mx_uI c5 (.inr (S, 0)) 11 a1) (.inr (S, 0)) 12 a2) (.inr (S, 0)) 5 (c5.2.1 (.inl 90) 0)).2.1 (.inr (S, 0)) 12 = a2 := by rw [rI_i (by decide +kernel), rI_s]
  have p5 : (mx_uI (mx_uI (mx_uI c5 (.inr (S, 0)) 11 a1) (.inr (S, 0)) 12 a2) (.inr (S, 0)) 5 (c5.2.1 (.inl 90) 0)).2.1 (.inr (S, 0)) 5 = c5.2.1 (.inl 90) 0 := rI_s
  have po : ∀ o, o ≠ 0 → (mx_uI (mx_uI (mx_uI c5 (.inr (S, 0)) 11 a1) (.inr (S, 0)) 12 a2) (.inr (S, 0)) 5 (c5.2.1 (.inl 90) 0)).2.1 (.inr (S, o)) = c5.2.1 (.inr (S, o)) := fun o ho => by rw [rS ho, rS ho, rS ho]
  have x90 : rD c5 (.inl 90) 0 = N := by
    unfold rD
    rw [W5.2.2.1 90 0 (by decide +kernel)]
    exact A5
  have x2 : rD c5 (.inl 0) 2 = S := by
    unfold rD
    rw [W5.2.2.1 0 2 (by decide +kernel)]
    exact A3
  have x2' : rD (mx_uI (mx_uI (mx_uI c5 (.inr (S, 0)) 11 a1) (.inr (S, 0)) 12 a2) (.inr (S, 0)) 5 (c5.2.1 (.inl 90) 0)) (.inl 0) 2 = S := x2
  have x90' : rD (mx_uI (mx_uI (mx_uI c5 (.inr (S, 0)) 11 a1) (.inr (S, 0)) 12 a2) (.inr (S, 0)) 5 (c5.2.1 (.inl 90) 0)) (.inl 90) 0 = N := x90
  rw [C169 (h := mx_uI (mx_uI c5 (.inr (S, 0)) 11 a1) (.inr (S, 0)) 12 a2) (S := S) (show c5.2.2.2 (.inl 0) 3 = _ from rf W5)]
  show ((g169_16 0 (mx_uI (mx_uI (mx_uI c5 (.inr (S, 0)) 11 a1) (.inr (S, 0)) 12 a2) (.inr (S, 0)) 5 (c5.2.1 (.inl 90) 0))).1 = hr.2.1 (.inl 105) 1) ∧ rs_A (g169_16 0 (mx_uI (mx_uI (mx_uI c5 (.inr (S, 0)) 11 a1) (.inr (S, 0)) 12 a2) (.inr (S, 0)) 5 (c5.2.1 (.inl 90) 0))).2 _ (S + 1) (N + M) ∧ (∀ s, s < S → rs_ec s hc (g169_16 0 (mx_uI (mx_uI (mx_uI c5 (.inr (S, 0)) 11 a1) (.inr (S, 0)) 12 a2) (.inr (S, 0)) 5 (c5.2.1 (.inl 90) 0))).2) ∧ ∀ i, (g169_16 0 (mx_uI (mx_uI (mx_uI c5 (.inr (S, 0)) 11 a1) (.inr (S, 0)) 12 a2) (.inr (S, 0)) 5 (c5.2.1 (.inl 90) 0))).2.2.2.2 (.inl 85) i = hc.2.2.2 (.inl 85) i
  generalize mx_uI (mx_uI (mx_uI c5 (.inr (S, 0)) 11 a1) (.inr (S, 0)) 12 a2) (.inr (S, 0)) 5 (c5.2.1 (.inl 90) 0) = hx at W6 pi p11 p12 p5 po x2' x90' ⊢
  have xj : rD hx (.inr (S, 0)) 6 = (M : Int) := by
    unfold rD
    rw [pi 6 (by decide +kernel) (by decide +kernel) (by decide +kernel)]
    exact J2.2.1
  obtain ⟨gc, B, ec2⟩ := C169g (N := N) q1 M 0 0 (h := hx) (g := hx) (by omega) rfl M15 q2 xj (rf W6) x2' (W6.1.trans A7) ⟨rfl, fun _ _ => rfl, fun _ _ _ _ => rfl, x90', fun _ _ _ => rfl, fun _ _ => ⟨rfl, rfl⟩, fun i l1 l2 => by omega⟩
  rw [ec2]
  have r71 : r7.2.1 (.inl 105) 1 = hr.2.1 (.inl 105) 1 := w7.2.2.2 105 1 (by unfold rz_w; omega) (by omega) (by omega)
  have gl : ∀ k i, ¬ (k = 114 ∧ i = S) → ¬ (k = 115 ∧ i = S) → ¬ (k = 105 ∧ i = 1) → (mx_uI (mx_uI (mx_uI r7 (.inl 114) S a1) (.inl 115) S a2) (.inl 105) 1 (r7.2.1 (.inl 105) 1 + 1)).2.1 (.inl k) i = r7.2.1 (.inl k) i := fun k i p q r => (if_neg (fun z => r ⟨Sum.inl.inj z.1, z.2⟩)).trans ((if_neg (fun z => q ⟨Sum.inl.inj z.1, z.2⟩)).trans (if_neg (fun z => p ⟨Sum.inl.inj z.1, z.2⟩)))
  have g1 : (mx_uI (mx_uI (mx_uI r7 (.inl 114) S a1) (.inl 115) S a2) (.inl 105) 1 (r7.2.1 (.inl 105) 1 + 1)).2.1 (.inl 105) 1 = hr.2.1 (.inl 105) 1 + 1 := by rw [rI_s, r71]
  have g4 : (mx_uI (mx_uI (mx_uI r7 (.inl 114) S a1) (.inl 115) S a2) (.inl 105) 1 (r7.2.1 (.inl 105) 1 + 1)).2.1 (.inl 114) S = a1 := (show (mx_uI r7 (.inl 114) S a1).2.1 (.inl 114) S = a1 from rI_s)
  have g5 : (mx_uI (mx_uI (mx_uI r7 (.inl 114) S a1) (.inl 115) S a2) (.inl 105) 1 (r7.2.1 (.inl 105) 1 + 1)).2.1 (.inl 115) S = a2 := (show (mx_uI (mx_uI r7 (.inl 114) S a1) (.inl 115) S a2).2.1 (.inl 115) S = a2 from rI_s)
  generalize mx_uI (mx_uI (mx_uI r7 (.inl 114) S a1) (.inl 115) S a2) (.inl 105) 1 (r7.2.1 (.inl 105) 1 + 1) = gM at gl g1 g4 g5 ⊢
  refine ⟨?_, rs_grow A q1 q2 C1' W6 (by unfold rD; rw [p5]; exact x90) B ?_ ?_ (fun s hs k i w => ?_) (fun i hi => ?_) ?_ ?_ (fun c hc1 => ?_) ⟨?_, fun _ => ?_⟩, fun s hs => k_N_ec B W6 hs, fun i => k_N_r B W6⟩
  · show gc.2.1 (.inl 0) 2 + 1 - 1 = _
    have y : rD gc (.inl 0) 2 = S := by
      unfold rD
      rw [B.2.2.1 0 2 (by decide +kernel) (by decide +kernel)]
      exact x2'
    exact i_eq (i_sub (i_add y k_1 (by omega) (by omega)) k_1 (by omega) (by omega)) A4 (by omega)
  · unfold rD
    rw [g1]
    exact (i_add A4 k_1 (by omega) (by omega)).trans (by omega)
  · exact rj_J.x (fun o i l1 l2 => by rw [po o (by omega)]) (pi 6 (by decide +kernel) (by decide +kernel) (by decide +kernel)) (gl 105 12 (by omega) (by omega) (by omega)) (fun k i t => gl k i (by omega) (by omega) (by omega)) J2
  · have w' := w
    unfold rs_w at w'
    rw [gl k i (by omega) (by omega) (by omega)]
    exact w7.e hs k i w
  · rw [gl 116 i (by omega) (by omega) (by omega), gl 117 i (by omega) (by omega) (by omega)]
    exact w7.l hi
  · unfold rD
    rw [pi 0 (by decide +kernel) (by decide +kernel) (by decide +kernel)]
    exact c5C
  · unfold rD
    rw [gl 106 S (by omega) (by omega) (by omega)]
    exact r7C
  · have cx : ∀ x, 1 ≤ x → x ≤ 4 → hx.2.1 (.inr (S, x)) c = gM.2.1 (.inl (106 + x)) (6 * S + c) := fun x l1 l2 => by
      rw [po x (by omega), gl (106 + x) (6 * S + c) (by omega) (by omega) (by omega)]
      exact cor x c l1 l2 hc1
    exact ⟨cx 1 (by omega) (by omega), cx 2 (by omega) (by omega), cx 3 (by omega) (by omega), cx 4 (by omega) (by omega)⟩
  · rw [p11, g4]
  · rw [p12, g5]
/-- the joint piece -/
theorem rj_joint {c4 r5 : mx_H} {x y : Int32} {u w : Nat} (A : rs_A hc hr S N) (q1 : S ≤ 11) (q2 : N + (n1 + n2 + 1) ≤ 200) (c6 : C1 + C2 ≤ 6) (W4 : rz_FW S hc c4) (w5 : rw_r N S hr r5) (J : rj_J c4 r5 S (C1 + C2) N (n1 + n2)) (zone : ∀ u v, u < 6 → v < 6 → ¬ r5.2.1 (.inl 113) (36 * S + 6 * u + v) = 0 → (u < C1 ∧ v < C1) ∨ (C1 ≤ u ∧ C1 ≤ v)) (c4C : rD c4 (.inr (S, 0)) 0 = ((C1 + C2 : Nat) : Int)) (r5C : rD r5 (.inl 106) S = ((C1 + C2 : Nat) : Int)) (cor : ∀ x c, 1 ≤ x → x ≤ 4 → c < C1 + C2 → c4.2.1 (.inr (S, x)) c = r5.2.1 (.inl (106 + x)) (6 * S + c))
    (hx : x.toInt = (u : Int)) (hu : u < C1) (hy : y.toInt = (w : Int)) (hw : w < C2) (yc : rD c4 (.inr (s1, 0)) 0 = C1) (yr : rD r5 (.inl 106) s1 = C1) (h40 : 0 ≤ a4.toInt) :
    (f181 (hr.2.1 (.inl 105) 1) x (r5.2.1 (.inl 106) s1 + y) (r5.2.1 (.inl 105) 12) a4 0 r5).2.1 (.inl 106) s1 = r5.2.1 (.inl 106) s1 ∧ rz_FW S hc (f63 S x (c4.2.1 (.inr (s1, 0)) 0 + y) a4 c4) ∧ rw_r N S hr (f193 (hr.2.1 (.inl 105) 1) x (r5.2.1 (.inl 106) s1 + y) (f181 (hr.2.1 (.inl 105) 1) x (r5.2.1 (.inl 106) s1 + y) (r5.2.1 (.inl 105) 12) a4 0 r5)) ∧
    rj_J (f63 S x (c4.2.1 (.inr (s1, 0)) 0 + y) a4 c4) (f193 (hr.2.1 (.inl 105) 1) x (r5.2.1 (.inl 106) s1 + y) (f181 (hr.2.1 (.inl 105) 1) x (r5.2.1 (.inl 106) s1 + y) (r5.2.1 (.inl 105) 12) a4 0 r5)) S (C1 + C2) N (n1 + n2 + 1) ∧ rD (f63 S x (c4.2.1 (.inr (s1, 0)) 0 + y) a4 c4) (.inr (S, 0)) 0 = ((C1 + C2 : Nat) : Int) ∧ rD (f193 (hr.2.1 (.inl 105) 1) x (r5.2.1 (.inl 106) s1 + y) (f181 (hr.2.1 (.inl 105) 1) x (r5.2.1 (.inl 106) s1 + y) (r5.2.1 (.inl 105) 12) a4 0 r5)) (.inl 106) S = ((C1 + C2 : Nat) : Int) ∧
    ∀ q c, 1 ≤ q → q ≤ 4 → c < C1 + C2 → (f63 S x (c4.2.1 (.inr (s1, 0)) 0 + y) a4 c4).2.1 (.inr (S, q)) c = (f193 (hr.2.1 (.inl 105) 1) x (r5.2.1 (.inl 106) s1 + y) (f181 (hr.2.1 (.inl 105) 1) x (r5.2.1 (.inl 106) s1 + y) (r5.2.1 (.inl 105) 12) a4 0 r5)).2.1 (.inl (106 + q)) (6 * S + c) := by
  have A4 := A.2.2.2.1
  have hyc : (c4.2.1 (.inr (s1, 0)) 0 + y).toInt = ((C1 + w : Nat) : Int) := (i_add yc hy (by omega) (by omega)).trans (by omega)
  have hyr : (r5.2.1 (.inl 106) s1 + y).toInt = ((C1 + w : Nat) : Int) := (i_add yr hy (by omega) (by omega)).trans (by omega)
  have z1 : r5.2.1 (.inl 113) (36 * S + 6 * u + (C1 + w)) = 0 := Classical.byContradiction fun t => by
    have := zone u (C1 + w) (by omega) (by omega) t
    omega
  have z2 : r5.2.1 (.inl 113) (36 * S + 6 * (C1 + w) + u) = 0 := Classical.byContradiction fun t => by
    have := zone (C1 + w) u (by omega) (by omega) t
    omega
  have M15 := rj_15 J (by omega) (by omega) (by omega) z1 z2
  have j1 := J.2.1
  have j2 := J.2.2.1
  generalize c4.2.1 (.inr (s1, 0)) 0 + y = yy at hyc
  generalize r5.2.1 (.inl 106) s1 + y = zz at hyr
  have r6a : (f181 (hr.2.1 (.inl 105) 1) x zz (r5.2.1 (.inl 105) 12) a4 0 r5).2.1 (.inl 106) s1 = r5.2.1 (.inl 106) s1 := by
    rw [k181 A4 hx hyr (by omega) (by omega) (by omega), k_po (by decide +kernel) (by decide +kernel) (by decide +kernel), k_po (by decide +kernel) (by decide +kernel) (by decide +kernel)]
  have w179' := w179 A4 hx hyr (by omega) (by omega) (by omega)
  have bo : (r5.2.1 (.inl 105) 12 + 1).toInt = ((N + (n1 + n2) + 1 : Nat) : Int) := (i_add j2 k_1 (by omega) (by omega)).trans (by omega)
  have K := k63 (h := c4) (S := S) (n := n1 + n2) (a := x) (b := yy) (d := a4) j1 M15
  have R := R_add (hr := r5) (d := a4) (e := 0) (N := N + (n1 + n2)) A4 hx hyr j2 (by omega) (by omega) (by omega) (by omega) rfl
  refine ⟨r6a, ?_⟩
  rw [K]
  generalize f193 (hr.2.1 (.inl 105) 1) x zz (f181 (hr.2.1 (.inl 105) 1) x zz (r5.2.1 (.inl 105) 12) a4 0 r5) = r7 at R ⊢
  obtain ⟨t1, t2, t3, t4, t5, t6, t7, t8, t9, t10, t11⟩ := R
  refine ⟨W4.trans k_apF.W, w5.trans ⟨t1, t2, t3, fun k i p q r => ?_⟩, (rj_add (u := u) (v := C1 + w) J (by omega) (by omega) (by omega) z1 z2 (fun i => ka5) (fun i => ka6) (fun i => ka7) (fun i => ka8)
    (by unfold rD; rw [ka0, if_pos rfl]; exact (i_add j1 k_1 (by omega) (by omega)).trans (by omega)) (k_mn_v hx hyc) (k_mx_v hx hyc) bo (w := f179 (hr.2.1 (.inl 105) 1) x zz + 1) ((i_add w179' k_1 (by omega) (by omega)).trans (by omega)) t4 t5 t6 t7 t8 (by unfold rD; rw [t9]; exact bo) (by rw [k_0]; exact h40)).1, ?_, ?_, fun q c l1 l2 hc1 => ?_⟩
  · by_cases c105 : k = 105
    · subst c105
      exact t10 i (by omega)
    · by_cases c111 : k = 111
      · subst c111
        rw [t5, if_neg (fun e => p (by unfold rz_w; omega)), if_neg (fun e => p (by unfold rz_w; omega))]
      · by_cases c112 : k = 112
        · subst c112
          rw [t6, if_neg (fun e => p (by unfold rz_w; omega)), if_neg (fun e => p (by unfold rz_w; omega))]
        · by_cases c113 : k = 113
          · subst c113
            rw [t4, if_neg (fun e => p (by unfold rz_w; omega)), if_neg (fun e => p (by unfold rz_w; omega))]
          · by_cases c116 : k = 116
            · subst c116
              rw [t7, if_neg (by omega)]
            · by_cases c117 : k = 117
              · subst c117
                rw [t8, if_neg (by omega)]
              · exact t11 k i c105 c111 c112 c113 c116 c117
  · unfold rD
    rw [ka0, if_neg (by decide +kernel)]
    exact c4C
  · unfold rD
    rw [t11 106 S (by decide +kernel) (by decide +kernel) (by decide +kernel) (by decide +kernel) (by decide +kernel) (by decide +kernel)]
    exact r5C
  · rw [kao (by omega) (by omega) (by omega) (by omega) (by omega), t11 (106 + q) (6 * S + c) (by omega) (by omega) (by omega) (by omega) (by omega) (by omega)]
    exact cor q c l1 l2 hc1
set_option maxHeartbeats 8000000 in
theorem rs_join (A : rs_A hc hr S N) (nn : ∀ p, 0 ≤ rD hr (.inl 113) p) (hb : ∀ i, hr.2.1 (.inl 110) i = 0 ∨ hr.2.1 (.inl 110) i = 1) : (f142 a1 a2 a3 a4 hc).1 = (f280 a1 a2 a3 a4 hr).1 ∧ ∃ S' N', (S ≤ S' ∧ N ≤ N') ∧ rs_A (f142 a1 a2 a3 a4 hc).2 (f280 a1 a2 a3 a4 hr).2 S' N' ∧ (∀ s, s < S → rs_ec s hc (f142 a1 a2 a3 a4 hc).2) ∧ ∀ i, (f142 a1 a2 a3 a4 hc).2.2.2.2 (.inl 85) i = hc.2.2.2 (.inl 85) i := by
  obtain ⟨A1, A2, A3, A4, A5, A6, A7, A8, A9, A10⟩ := id A
  have bad : g142_53 hc = (-1, hc) := g142_53_eq hc
  have fin : ∀ {x : Int32}, f142 a1 a2 a3 a4 hc = (x, hc) → f280 a1 a2 a3 a4 hr = (x, hr) → (f142 a1 a2 a3 a4 hc).1 = (f280 a1 a2 a3 a4 hr).1 ∧ ∃ S' N', (S ≤ S' ∧ N ≤ N') ∧ rs_A (f142 a1 a2 a3 a4 hc).2 (f280 a1 a2 a3 a4 hr).2 S' N' ∧ (∀ s, s < S → rs_ec s hc (f142 a1 a2 a3 a4 hc).2) ∧ ∀ i, (f142 a1 a2 a3 a4 hc).2.2.2.2 (.inl 85) i = hc.2.2.2 (.inl 85) i := fun q1 q2 => by
    rw [q1, q2]
    exact ⟨rfl, S, N, ⟨Nat.le_refl _, Nat.le_refl _⟩, A, fun _ _ _ _ _ => rfl, fun _ => rfl⟩
  rcases C166 (a := a1) A with ⟨s1, lt1, h1, e1, e1'⟩ | ⟨e1, e1'⟩
  · rcases C166 (a := a2) A with ⟨s2, lt2, h2, e2, e2'⟩ | ⟨e2, e2'⟩
    · obtain ⟨C1, n1, F1, D1⟩ := (A9 s1 lt1).2
      obtain ⟨C2, n2, F2, D2⟩ := (A9 s2 lt2).2
      by_cases c3 : a3 < 0
      · refine fin (x := -1) ?_ ?_
        · rw [f142_eq, e1, e2]
          show (if a3 < 0 then g142_53 hc else _) = _
          rw [if_pos c3, bad]
        · rw [f280_eq, e1', e2', if_neg n10, if_neg n10, if_pos c3]
      · rcases C164 (x := a3 / 10) h1 D1.2.2.2.1 D1.2.2.2.2.1 D1.2.1 with ⟨u, hu, hx, g1, g1'⟩ | ⟨g1, g1'⟩
        · rcases C164 (x := a3 - a3 / 10 * 10) h2 D2.2.2.2.1 D2.2.2.2.2.1 D2.2.1 with ⟨w, hw, hy, g2, g2'⟩ | ⟨g2, g2'⟩
          · have ws : f157 a4 1 9 = f173 a4 1 9 := w_ws
            by_cases nv : f173 a4 1 9 = 0
            · refine fin (x := -1) ?_ ?_
              · rw [f142_eq, e1, e2]
                show (if a3 < 0 then g142_53 hc else _) = _
                rw [if_neg c3, if_neg (by rw [g1]; exact n10), if_neg (by rw [g2]; exact n10), if_neg (by rw [ws]; exact fun t => t nv), bad]
              · rw [f280_eq, e1', e2', if_neg n10, if_neg n10, if_neg c3, if_neg (by rw [g1']; exact n10), if_neg (by rw [g2']; exact n10), if_pos nv]
            · have C16 := D1.2.1
              have C26 := D2.2.1
              have k1c := D1.2.2.2.1
              have k2c := D2.2.2.2.1
              have k1r := D1.2.2.2.2.1
              have k2r := D2.2.2.2.2.1
              have m1 := D1.2.2.2.2.2.1
              have m2 := D2.2.2.2.2.2.1
              have n1e := D1.2.2.2.2.2.2.2.2.2.2.2.1
              have n2e := D2.2.2.2.2.2.2.2.2.2.2.2.1
              have n115 : n1 ≤ 15 := by
                rw [n1e]
                exact sd_C_15 _
              have n215 : n2 ≤ 15 := by
                rw [n2e]
                exact sd_C_15 _
              have sc := i_add k1c k2c (by omega) (by omega)
              have sr := i_add k1r k2r (by omega) (by omega)
              have sp := i_add (i_add m1 m2 (by omega) (by omega)) k_1 (by omega) (by omega)
              by_cases c6 : C1 + C2 ≤ 6
              · have cc6 : hc.2.1 (.inr (s1, 0)) 0 + hc.2.1 (.inr (s2, 0)) 0 ≤ 6 := i_le sc k_6 (by omega)
                have cr6 : hr.2.1 (.inl 106) s1 + hr.2.1 (.inl 106) s2 ≤ 6 := i_le sr k_6 (by omega)
                have f1 := R183 (h := hr) h1 (by omega) nn
                have f2 := R183 (h := hr) h2 (by omega) nn
                rw [← n1e] at f1
                rw [← n2e] at f2
                have tot := i_add (i_add (i_add A6 f1 (by omega) (by omega)) f2 (by omega) (by omega)) k_1 (by omega) (by omega)
                rcases C168 (a := hc.2.1 (.inr (s1, 0)) 6 + hc.2.1 (.inr (s2, 0)) 6 + 1) (p := n1 + n2 + 1) A3 A5 (by rw [sp]; omega) A1 A2 (by omega) with ⟨q1, q2, q3⟩ | ⟨q1, q3⟩
                · -- a new shape
                  have S12 : ¬ hr.2.1 (.inl 105) 1 = 12 := i_ne A4 k_12 (by omega)
                  have B := rj_both A lt1 lt2 D1 D2 q1 q2 c6 h1 h2 A4 hb rfl rfl rfl rfl rfl rfl rfl rfl
                  generalize hc2 : f64 S s1 (f59 S hc) = c2 at B
                  generalize hc4 : f64 S s2 c2 = c4 at B
                  generalize hr0 : f182 (hr.2.1 (.inl 105) 1) hr = r0 at B
                  generalize hr1 : mx_uI r0 (.inl 106) S (r0.2.1 (.inl 106) s1 + r0.2.1 (.inl 106) s2) = r1 at B
                  generalize hr2 : f279 a1 (hr.2.1 (.inl 105) 1) 0 r1 = r2 at B
                  generalize hr3 : f279 a2 (hr.2.1 (.inl 105) 1) (r2.2.1 (.inl 106) s1) r2 = r3 at B
                  generalize hr4 : f278 a1 (hr.2.1 (.inl 105) 1) 0 r3 = r4 at B
                  generalize hr5 : f278 a2 (hr.2.1 (.inl 105) 1) (r4.2.1 (.inl 106) s1) r4 = r5 at B
                  obtain ⟨W2, W4, w2, w4, w5, J, zone, c4C, r5C, cor⟩ := B
                  have F0 := (C59s S hc).1
                  have rf : ∀ {x : mx_H}, rz_FW S hc x → x.2.2.2 (.inl 0) 3 = some (.inr (S, 0)) := fun W => by
                    rw [show _ = hc.2.2.2 from congrArg Prod.snd W.2.1]
                    exact A8
                  have yc : rD c4 (.inr (s1, 0)) 0 = C1 := by
                    unfold rD
                    rw [W4.2.2.2 s1 0 0 (by omega)]
                    exact k1c
                  have yr : rD r5 (.inl 106) s1 = C1 := by
                    unfold rD
                    rw [w5.co lt1]
                    exact k1r
                  obtain ⟨r6a, W5, w7, J2, c5C, r7C, cor5⟩ := rj_joint (a4 := a4) A q1 q2 c6 W4 w5 J zone c4C r5C cor hx hu hy hw yc yr (by
                    have b : 1 ≤ a4.toInt ∧ a4.toInt ≤ 9 := Classical.byContradiction fun q => nv (w173_0 rfl k_1 k_9 q)
                    omega)
                  have ec : f142 a1 a2 a3 a4 hc = f169 (mx_uI (mx_uI (f63 S (a3 / 10) (c4.2.1 (.inr (s1, 0)) 0 + (a3 - a3 / 10 * 10)) a4 c4) (.inr (S, 0)) 11 a1) (.inr (S, 0)) 12 a2) := by
                    have q := C142 (h := hc) (S := S) e1 e2 c3 g1 g2 (by rw [ws]; exact nv) cc6 q3 A8 (rf F0) (by rw [hc2]; exact rf W2) (by rw [hc2, hc4]; exact rf W4) (by rw [hc2, hc4]; exact rf W5)
                    rw [hc2, hc4] at q
                    exact q
                  generalize hr6 : f181 (hr.2.1 (.inl 105) 1) (a3 / 10) (r5.2.1 (.inl 106) s1 + (a3 - a3 / 10 * 10)) (r5.2.1 (.inl 105) 12) a4 0 r5 = r6 at r6a w7 J2 r7C cor5
                  have er : f280 a1 a2 a3 a4 hr = (hr.2.1 (.inl 105) 1, mx_uI (mx_uI (mx_uI (f193 (hr.2.1 (.inl 105) 1) (a3 / 10) (r5.2.1 (.inl 106) s1 + (a3 - a3 / 10 * 10)) r6) (.inl 114) S a1) (.inl 115) S a2) (.inl 105) 1 ((f193 (hr.2.1 (.inl 105) 1) (a3 / 10) (r5.2.1 (.inl 106) s1 + (a3 - a3 / 10 * 10)) r6).2.1 (.inl 105) 1 + 1)) := by
                    rw [f280_eq, e1', e2', if_neg n10, if_neg n10, if_neg c3, if_neg (by rw [g1']; exact n10), if_neg (by rw [g2']; exact n10), if_neg nv, i_cl h1, i_cl h2, if_pos cr6, if_neg S12, if_pos (i_le tot k_200 (by omega))]
                    simp only [x_h]
                    rw [i_cl A4, hr0, hr1, hr2, hr3, hr4, hr5, hr6, r6a]
                    rfl
                  rw [er, ec]
                  obtain ⟨z1, z2, z3⟩ := rj_fin (a1 := a1) (a2 := a2) A q1 q2 (show n1 + n2 + 1 ≤ 15 by have := rj_J15 J2; omega) (show 1 ≤ C1 + C2 by have := D1.1; omega) W5 w7 J2 c5C r7C cor5
                  exact ⟨z1, S + 1, N + (n1 + n2 + 1), ⟨by omega, by omega⟩, z2, z3⟩
                · refine fin (x := -3) ?_ ?_
                  · rw [f142_eq, e1, e2]
                    show (if a3 < 0 then g142_53 hc else _) = _
                    rw [if_neg c3, if_neg (by rw [g1]; exact n10), if_neg (by rw [g2]; exact n10), if_pos (by rw [ws]; exact nv), if_pos cc6, if_neg (by rw [q3]; exact n10)]
                  · rw [f280_eq, e1', e2', if_neg n10, if_neg n10, if_neg c3, if_neg (by rw [g1']; exact n10), if_neg (by rw [g2']; exact n10), if_neg nv, i_cl h1, i_cl h2, if_pos cr6]
                    by_cases c12 : S = 12
                    · rw [if_pos (i_eq A4 k_12 (by omega))]
                    · rw [if_neg (i_ne A4 k_12 (by omega)), if_neg (i_nle tot k_200 (by omega))]
              · refine fin (x := -1) ?_ ?_
                · rw [f142_eq, e1, e2]
                  show (if a3 < 0 then g142_53 hc else _) = _
                  rw [if_neg c3, if_neg (by rw [g1]; exact n10), if_neg (by rw [g2]; exact n10), if_pos (by rw [ws]; exact nv), if_neg (i_nle sc k_6 (by omega))]
                · rw [f280_eq, e1', e2', if_neg n10, if_neg n10, if_neg c3, if_neg (by rw [g1']; exact n10), if_neg (by rw [g2']; exact n10), if_neg nv, i_cl h1, i_cl h2, if_neg (i_nle sr k_6 (by omega))]
          · refine fin (x := -1) ?_ ?_
            · rw [f142_eq, e1, e2]
              show (if a3 < 0 then g142_53 hc else _) = _
              rw [if_neg c3, if_neg (by rw [g1]; exact n10), if_pos g2, bad]
            · rw [f280_eq, e1', e2', if_neg n10, if_neg n10, if_neg c3, if_neg (by rw [g1']; exact n10), if_pos g2']
        · refine fin (x := -1) ?_ ?_
          · rw [f142_eq, e1, e2]
            show (if a3 < 0 then g142_53 hc else _) = _
            rw [if_neg c3, if_pos g1, bad]
          · rw [f280_eq, e1', e2', if_neg n10, if_neg n10, if_neg c3, if_pos g1']
    · refine fin (x := -1) ?_ ?_
      · rw [f142_eq, e1, e2]
        show (if a3 < 0 then g142_53 hc else if f164 s1 (a3 / 10) hc = 0 then g142_53 hc else g142_53 hc) = _
        rw [ite_self, ite_self, bad]
      · rw [f280_eq, e1', e2', if_neg n10, if_pos rfl]
  · refine fin (x := -1) ?_ ?_
    · rw [f142_eq, e1]
      cases f166 a2 hc with
      | none =>
        show (if a3 < 0 then g142_53 hc else g142_53 hc) = _
        rw [ite_self, bad]
      | some j =>
        show (if a3 < 0 then g142_53 hc else g142_53 hc) = _
        rw [ite_self, bad]
    · rw [f280_eq, e1', if_pos rfl]
end RCC
