/-! ===== one thing is set, on both sides ===== -/
section REE
variable {h h' g hc hr gc gr : mx_H} {S N s i j n m k c C F u v o D U E : Nat} {a a1 a2 a3 a4 a5 x y d e : Int32} {V : Nat → Nat → Nat → Int}
theorem rs_A.corner (A : rs_A hc hr S N) (hs : s < S) (o1 : 1 ≤ o) (o4 : o ≤ 4) (c6 : c < 6) : rs_A (mx_uI hc (.inr (s, o)) c x) (mx_uI hr (.inl (106 + o)) (6 * s + c) x) S N := by
  obtain ⟨A1, A2, A3, A4, A5, A6, A7, A8, A9, A10⟩ := A
  have rl : ∀ q i, ¬ (q = 106 + o ∧ i = 6 * s + c) → (mx_uI hr (.inl (106 + o)) (6 * s + c) x).2.1 (.inl q) i = hr.2.1 (.inl q) i := fun q i w => if_neg (fun z => w ⟨Sum.inl.inj z.1, z.2⟩)
  have cl : ∀ t p i, ¬ (t = s ∧ p = o ∧ i = c) → (mx_uI hc (.inr (s, o)) c x).2.1 (.inr (t, p)) i = hc.2.1 (.inr (t, p)) i := fun t p i w => if_neg (fun z => by
    have z1 := z.1
    have z2 := z.2
    cases z1
    exact w ⟨rfl, rfl, z2⟩)
  refine ⟨A1, A2, A3, ?_, A5, ?_, A7, A8, fun t ht => ⟨(A9 t ht).1, ?_⟩, fun b hb => ?_⟩
  · unfold rD
    rw [rl 105 1 (by omega)]
    exact A4
  · unfold rD
    rw [rl 105 12 (by omega)]
    exact A6
  · obtain ⟨C, n, F, Dt⟩ := (A9 t ht).2
    refine ⟨C, n, F, ?_⟩
    by_cases ts : t = s
    · subst ts
      obtain ⟨d1, d2, d3, d4, d5, d6, d7, d8, d9, d10, d11, d12, d13⟩ := Dt
      have kx : ∀ k u v, rs_k hc hr t C F k u v → rs_k (mx_uI hc (.inr (t, o)) c x) (mx_uI hr (.inl (106 + o)) (6 * t + c) x) t C F k u v := fun k u v Q => by
        obtain ⟨q1, q2, q3, q4, q5, q6, q7, q8, q9, q10, q11, q12⟩ := Q
        unfold rs_k rD
        rw [cl t 5 k (by omega), cl t 6 k (by omega), cl t 7 k (by omega), cl t 8 k (by omega), rl 113 (36 * t + 6 * u + v) (by omega), rl 113 (36 * t + 6 * v + u) (by omega), rl 111 (36 * t + 6 * u + v) (by omega), rl 111 (36 * t + 6 * v + u) (by omega), rl 112 (36 * t + 6 * u + v) (by omega), rl 112 (36 * t + 6 * v + u) (by omega), rl 117 (F + k) (by omega)]
        exact ⟨q1, q2, q3, q4, q5, q6, q7, q8, q9, q10, q11, q12⟩
      refine ⟨d1, d2, d3, ?_, ?_, ?_, ?_, fun i hi => ?_, ?_, fun k hk => ?_, fun u v hu hv => ?_, ?_, d13⟩
      · unfold rD
        rw [cl t 0 0 (by omega)]
        exact d4
      · unfold rD
        rw [rl 106 t (by omega)]
        exact d5
      · unfold rD
        rw [cl t 0 6 (by omega)]
        exact d6
      · unfold rD
        rw [cl t 0 5 (by omega)]
        exact d7
      · have cx : ∀ p, 1 ≤ p → p ≤ 4 → hc.2.1 (.inr (t, p)) i = hr.2.1 (.inl (106 + p)) (6 * t + i) → (mx_uI hc (.inr (t, o)) c x).2.1 (.inr (t, p)) i = (mx_uI hr (.inl (106 + o)) (6 * t + c) x).2.1 (.inl (106 + p)) (6 * t + i) := fun p p1 p4 q => by
          by_cases w : p = o ∧ i = c
          · rw [w.1, w.2, rI_s, rI_s]
          · rw [cl t p i (by omega), rl (106 + p) (6 * t + i) (by omega)]
            exact q
        obtain ⟨b1, b2, b3, b4⟩ := d8 i hi
        exact ⟨cx 1 (by omega) (by omega) b1, cx 2 (by omega) (by omega) b2, cx 3 (by omega) (by omega) b3, cx 4 (by omega) (by omega) b4⟩
      · rw [cl t 0 11 (by omega), cl t 0 12 (by omega), rl 114 t (by omega), rl 115 t (by omega)]
        exact d9
      · obtain ⟨u, v, Q⟩ := d10 k hk
        exact ⟨u, v, kx k u v Q⟩
      · rw [rl 113 (36 * t + 6 * u + v) (by omega)]
        rcases d11 u v hu hv with z | ⟨k, p1, p2⟩
        · exact Or.inl z
        · refine Or.inr ⟨k, p1, ?_⟩
          rcases p2 with p2 | p2
          · exact Or.inl (kx _ _ _ p2)
          · exact Or.inr (kx _ _ _ p2)
      · refine d12.trans ?_
        unfold sd_C
        congr 1
        refine List.filter_congr (fun c' _ => ?_)
        unfold rz_g
        rw [rl 113 (36 * t + c') (by omega)]
    · refine Dt.x (Nat.le_refl _) (fun p i _ => cl t p i (by omega)) (fun q i w => ?_) (fun i _ => ⟨rl 117 i (by omega), rfl⟩)
      unfold rs_w at w
      exact rl q i (by omega)
  · rw [rl 116 b (by omega), rl 117 b (by omega)]
    obtain ⟨b1, b2⟩ := A10 b hb
    refine ⟨b1, ?_⟩
    rcases b2 with q | ⟨t, k, q1, q2, q3⟩
    · exact Or.inl q
    · refine Or.inr ⟨t, k, q1, ?_, ?_⟩
      · unfold rD
        rw [cl t 0 6 (by omega)]
        exact q2
      · unfold rD
        rw [cl t 0 5 (by omega)]
        exact q3
/-- the reference's piece is set -/
def rp_w (h g : mx_H) (s u v : Nat) (d e : Int32) : Prop := g.1 = h.1 ∧ g.2.2 = h.2.2 ∧ (∀ q i, g.2.1 (.inr q) i = h.2.1 (.inr q) i) ∧ (∀ i, g.2.1 (.inl 111) i = if i = 36 * s + 6 * v + u then d else if i = 36 * s + 6 * u + v then d else h.2.1 (.inl 111) i) ∧ (∀ i, g.2.1 (.inl 112) i = if i = 36 * s + 6 * v + u then e else if i = 36 * s + 6 * u + v then e else h.2.1 (.inl 112) i) ∧ ∀ q i, q ≠ 111 → q ≠ 112 → g.2.1 (.inl q) i = h.2.1 (.inl q) i
theorem rp_w.sy (w : rp_w h g s u v d e) (ne : u ≠ v) : rp_w h g s v u d e := by
  obtain ⟨w1, w2, w3, w4, w5, w6⟩ := w
  refine ⟨w1, w2, w3, fun i => ?_, fun i => ?_, w6⟩
  · rw [w4]
    by_cases e1 : i = 36 * s + 6 * v + u
    · rw [if_pos e1, if_pos e1]
      by_cases e2 : i = 36 * s + 6 * u + v
      · rw [if_pos e2]
      · rw [if_neg e2]
    · rw [if_neg e1, if_neg e1]
  · rw [w5]
    by_cases e1 : i = 36 * s + 6 * v + u
    · rw [if_pos e1, if_pos e1]
      by_cases e2 : i = 36 * s + 6 * u + v
      · rw [if_pos e2]
      · rw [if_neg e2]
    · rw [if_neg e1, if_neg e1]
set_option maxHeartbeats 4000000 in
theorem rs_A.piece (A : rs_A hc hr S N) (hs : s < S) (Ds : rs_D hc hr N s C n F) (hk : k < n) (Q : rs_k hc hr s C F k u v) (w : rp_w hr gr s u v d e) (hde : e.toInt ≤ d.toInt) : rs_A (mx_uI (mx_uI hc (.inr (s, 7)) k d) (.inr (s, 8)) k e) gr S N := by
  obtain ⟨A1, A2, A3, A4, A5, A6, A7, A8, A9, A10⟩ := A
  obtain ⟨w1, w2, w3, w4, w5, w6⟩ := w
  have C6 := Ds.2.1
  have Qu := Q.1
  have Qv := Q.2.1
  have Qn := Q.2.2.1
  have Q6 := Q.2.2.2.2.2.1
  have Q7 := Q.2.2.2.2.2.2.1
  have cl : ∀ t p i, ¬ (t = s ∧ (p = 7 ∨ p = 8) ∧ i = k) → (mx_uI (mx_uI hc (.inr (s, 7)) k d) (.inr (s, 8)) k e).2.1 (.inr (t, p)) i = hc.2.1 (.inr (t, p)) i := fun t p i w => (if_neg (fun z => by
    have z1 := z.1
    have z2 := z.2
    cases z1
    exact w ⟨rfl, Or.inr rfl, z2⟩)).trans (if_neg (fun z => by
    have z1 := z.1
    have z2 := z.2
    cases z1
    exact w ⟨rfl, Or.inl rfl, z2⟩))
  have c7 : (mx_uI (mx_uI hc (.inr (s, 7)) k d) (.inr (s, 8)) k e).2.1 (.inr (s, 7)) k = d := by rw [rS (by decide), rI_s]
  have c8 : (mx_uI (mx_uI hc (.inr (s, 7)) k d) (.inr (s, 8)) k e).2.1 (.inr (s, 8)) k = e := rI_s
  refine ⟨A1, A2, A3, ?_, A5, ?_, A7, A8, fun t ht => ⟨(A9 t ht).1, ?_⟩, fun b hb => ?_⟩
  · unfold rD
    rw [w6 105 1 (by decide) (by decide)]
    exact A4
  · unfold rD
    rw [w6 105 12 (by decide) (by decide)]
    exact A6
  · by_cases ts : t = s
    · subst ts
      refine ⟨C, n, F, ?_⟩
      obtain ⟨d1, d2, d3, d4, d5, d6, d7, d8, d9, d10, d11, d12, d13⟩ := Ds
      have kx : ∀ k' u' v', rs_k hc hr t C F k' u' v' → rs_k (mx_uI (mx_uI hc (.inr (t, 7)) k d) (.inr (t, 8)) k e) gr t C F k' u' v' := fun k' u' v' P => by
        obtain ⟨q1, q2, q3, q4, q5, q6, q7, q8, q9, q10, q11, q12⟩ := id P
        by_cases ek : k' = k
        · subst ek
          have Q4 := Q.2.2.2.1
          have Q5 := Q.2.2.2.2.1
          have uv : (u' = u ∧ v' = v) ∨ (u' = v ∧ v' = u) := by omega
          unfold rs_k rD
          rw [cl t 5 k' (by omega), cl t 6 k' (by omega), c7, c8, w6 113 (36 * t + 6 * u' + v') (by decide) (by decide), w6 113 (36 * t + 6 * v' + u') (by decide) (by decide), w6 117 (F + k') (by decide) (by decide), w4, w4, w5, w5]
          rcases uv with ⟨e1, e2⟩ | ⟨e1, e2⟩
          · subst e1
            subst e2
            refine ⟨q1, q2, q3, q4, q5, q6, q7, ?_, ?_, ?_, ?_, q12.1, hde⟩
            · rw [if_neg (by omega), if_pos rfl]
            · rw [if_pos rfl]
            · rw [if_neg (by omega), if_pos rfl]
            · rw [if_pos rfl]
          · subst e1
            subst e2
            refine ⟨q1, q2, q3, q4, q5, q6, q7, ?_, ?_, ?_, ?_, q12.1, hde⟩
            · rw [if_pos rfl]
            · rw [if_neg (by omega), if_pos rfl]
            · rw [if_pos rfl]
            · rw [if_neg (by omega), if_pos rfl]
        · have m1 : ¬ 36 * t + 6 * u' + v' = 36 * t + 6 * v + u := fun z => by
            rw [z] at q6
            omega
          have m2 : ¬ 36 * t + 6 * u' + v' = 36 * t + 6 * u + v := fun z => by
            rw [z] at q6
            omega
          have m3 : ¬ 36 * t + 6 * v' + u' = 36 * t + 6 * v + u := fun z => by
            rw [z] at q7
            omega
          have m4 : ¬ 36 * t + 6 * v' + u' = 36 * t + 6 * u + v := fun z => by
            rw [z] at q7
            omega
          unfold rs_k rD
          rw [cl t 5 k' (by omega), cl t 6 k' (by omega), cl t 7 k' (by omega), cl t 8 k' (by omega), w6 113 (36 * t + 6 * u' + v') (by decide) (by decide), w6 113 (36 * t + 6 * v' + u') (by decide) (by decide), w6 117 (F + k') (by decide) (by decide), w4, w4, w5, w5, if_neg m1, if_neg m2, if_neg m3, if_neg m4, if_neg m1, if_neg m2, if_neg m3, if_neg m4]
          exact ⟨q1, q2, q3, q4, q5, q6, q7, q8, q9, q10, q11, q12⟩
      refine ⟨d1, d2, d3, ?_, ?_, ?_, ?_, fun i hi => ?_, ?_, fun k hk => ?_, fun u v hu hv => ?_, ?_, d13⟩
      · unfold rD
        rw [cl t 0 0 (by omega)]
        exact d4
      · unfold rD
        rw [w6 106 t (by decide) (by decide)]
        exact d5
      · unfold rD
        rw [cl t 0 6 (by omega)]
        exact d6
      · unfold rD
        rw [cl t 0 5 (by omega)]
        exact d7
      · rw [cl t 1 i (by omega), cl t 2 i (by omega), cl t 3 i (by omega), cl t 4 i (by omega), w6 107 _ (by decide) (by decide), w6 108 _ (by decide) (by decide), w6 109 _ (by decide) (by decide), w6 110 _ (by decide) (by decide)]
        exact d8 i hi
      · rw [cl t 0 11 (by omega), cl t 0 12 (by omega), w6 114 t (by decide) (by decide), w6 115 t (by decide) (by decide)]
        exact d9
      · obtain ⟨u, v, P⟩ := d10 k hk
        exact ⟨u, v, kx k u v P⟩
      · rw [w6 113 _ (by decide) (by decide)]
        rcases d11 u v hu hv with z | ⟨k, p1, p2⟩
        · exact Or.inl z
        · refine Or.inr ⟨k, p1, ?_⟩
          rcases p2 with p2 | p2
          · exact Or.inl (kx _ _ _ p2)
          · exact Or.inr (kx _ _ _ p2)
      · refine d12.trans ?_
        unfold sd_C
        congr 1
        refine List.filter_congr (fun c' _ => ?_)
        unfold rz_g
        rw [w6 113 _ (by decide) (by decide)]
    · obtain ⟨C', n', F', Dt⟩ := (A9 t ht).2
      refine ⟨C', n', F', Dt.x (Nat.le_refl _) (fun p i _ => cl t p i (by omega)) (fun q i z => ?_) (fun i _ => ⟨w6 117 i (by decide) (by decide), rfl⟩)⟩
      unfold rs_w at z
      by_cases q1 : q = 111
      · subst q1
        rw [w4, if_neg (by omega), if_neg (by omega)]
      · by_cases q2 : q = 112
        · subst q2
          rw [w5, if_neg (by omega), if_neg (by omega)]
        · exact w6 q i q1 q2
  · rw [w6 116 b (by decide) (by decide), w6 117 b (by decide) (by decide)]
    obtain ⟨b1, b2⟩ := A10 b hb
    refine ⟨b1, ?_⟩
    rcases b2 with q | ⟨t, k, q1, q2, q3⟩
    · exact Or.inl q
    · refine Or.inr ⟨t, k, q1, ?_, ?_⟩
      · unfold rD
        rw [cl t 0 6 (by omega)]
        exact q2
      · unfold rD
        rw [cl t 0 5 (by omega)]
        exact q3
/-- setStiff at the place of a piece -/
theorem R199 {p : Int32} {b : Nat} (hp : p.toInt = ((36 * s + 6 * u + v : Nat) : Int)) (hu : u < 6) (hv : v < 6) (ne : u ≠ v) (s12 : s ≤ 12) (b1 : rD hr (.inl 113) (36 * s + 6 * u + v) = ((b + 1 : Nat) : Int)) (b2 : rD hr (.inl 113) (36 * s + 6 * v + u) = ((b + 1 : Nat) : Int)) (bb : b < 1000) : rp_w hr (f199 p d e hr) s u v d e := by
  obtain ⟨p1, p2, p3⟩ := R_dec hp hu hv s12
  have bm : hr.2.1 (.inl 113) (36 * s + 6 * u + v) - 1 + 1 = hr.2.1 (.inl 113) (36 * s + 6 * u + v) := i_eq (i_add (i_sub b1 k_1 (by omega) (by omega)) k_1 (by omega) (by omega)) b1 (by omega)
  have bs : hr.2.1 (.inl 113) (36 * s + 6 * v + u) = hr.2.1 (.inl 113) (36 * s + 6 * u + v) := i_eq b2 b1 rfl
  have E : f199 p d e hr = k_p (k_p hr (36 * s + 6 * u + v) (hr.2.1 (.inl 113) (36 * s + 6 * u + v) - 1) d e) (36 * s + 6 * v + u) (hr.2.1 (.inl 113) (36 * s + 6 * u + v) - 1) d e := by
    rw [f199_eq, i_cl hp, k181 p1 p2 p3 s12 hu hv]
    rfl
  rw [E]
  refine ⟨rfl, rfl, fun _ _ => rfl, fun i => by rw [k_p1, k_p1], fun i => by rw [k_p2, k_p2], fun q i q1 q2 => ?_⟩
  by_cases q3 : q = 113
  · subst q3
    rw [k_p3, k_p3, bm]
    by_cases e1 : i = 36 * s + 6 * v + u
    · rw [if_pos e1, e1, bs]
    · rw [if_neg e1]
      by_cases e2 : i = 36 * s + 6 * u + v
      · rw [if_pos e2, e2]
      · rw [if_neg e2]
  · rw [k_po q1 q2 q3, k_po q1 q2 q3]
/-- the piece between two corners, asked on both sides -/
theorem rs_pb (Ds : rs_D hc hr N s C n F) (n15 : n ≤ 15) (N2 : N ≤ 200) (s12 : s ≤ 12) (ha : a.toInt = (s : Int)) (hx : x.toInt = (u : Int)) (hy : y.toInt = (v : Int)) (hu : u < C) (hv : v < C) :
    (∃ k, k < n ∧ u ≠ v ∧ (f61 s x y hc).toInt = (k : Int) ∧ (rs_k hc hr s C F k u v ∨ rs_k hc hr s C F k v u) ∧ f180 a x y hr = 1 ∧ (f179 a x y).toInt = ((36 * s + 6 * u + v : Nat) : Int)) ∨ (f61 s x y hc = -1 ∧ (u = v ∨ (u ≠ v ∧ f180 a x y hr = 0))) := by
  obtain ⟨d1, d2, d3, d4, d5, d6, d7, d8, d9, d10, d11, d12, d13⟩ := id Ds
  have W := w179 ha hx hy s12 (show u < 6 by omega) (show v < 6 by omega)
  have f180' : f180 a x y hr = if hr.2.1 (.inl 113) (36 * s + 6 * u + v) ≤ 0 then 0 else 1 := by rw [f180_eq, i_cl W]
  rcases k61 (a := x) (b := y) d6 n15 with ⟨k, k1, k2, k3, k4⟩ | ⟨k1, k2⟩
  · obtain ⟨u', v', Q⟩ := d10 k k1
    have q4 := Q.2.2.2.1
    have q5 := Q.2.2.2.2.1
    have qn := Q.2.2.1
    have m1 := k_mn_v hx hy
    have m2 := k_mx_v hx hy
    unfold rD at q4 q5
    rw [k2, m1] at q4
    rw [k3, m2] at q5
    have uv : (u' = u ∧ v' = v) ∨ (u' = v ∧ v' = u) := by omega
    have P : rs_k hc hr s C F k u v ∨ rs_k hc hr s C F k v u := by
      rcases uv with ⟨t1, t2⟩ | ⟨t1, t2⟩
      · rw [t1, t2] at Q
        exact Or.inl Q
      · rw [t1, t2] at Q
        exact Or.inr Q
    have b1 : rD hr (.inl 113) (36 * s + 6 * u + v) = ((F + k + 1 : Nat) : Int) := by
      rcases P with P | P
      · exact P.2.2.2.2.2.1
      · exact P.2.2.2.2.2.2.1
    refine Or.inl ⟨k, k1, by omega, k4, P, ?_, W⟩
    rw [f180', if_neg (i_nle b1 k_0 (by omega))]
  · refine Or.inr ⟨k2, ?_⟩
    by_cases e : u = v
    · exact Or.inl e
    · refine Or.inr ⟨e, ?_⟩
      rw [f180']
      rcases d11 u v (by omega) (by omega) with z | ⟨k, p1, p2⟩
      · rw [z]
        rfl
      · exfalso
        have m1 := k_mn_v hx hy
        have m2 := k_mx_v hx hy
        refine k1 k p1 ⟨?_, ?_⟩
        · rcases p2 with p2 | p2
          · exact i_eq p2.2.2.2.1 m1 (by omega)
          · exact i_eq p2.2.2.2.1 m1 (by omega)
        · rcases p2 with p2 | p2
          · exact i_eq p2.2.2.2.2.1 m2 (by omega)
          · exact i_eq p2.2.2.2.2.1 m2 (by omega)
/-- an entry more -/
theorem rh_add (H : rh_H hc hr S V D U) (hm : E + m = D) (E40 : E < 40) (c1 : ∀ j, j < E → gc.2.2.2 (.inl 85) j = hc.2.2.2 (.inl 85) (j + m) ∧ ∀ q, 86 ≤ q → q ≤ 89 → gc.2.1 (.inl q) j = hc.2.1 (.inl q) (j + m)) (r1 : ∀ j, j < E → ∀ q, 123 ≤ q → q ≤ 127 → gr.2.1 (.inl q) j = hr.2.1 (.inl q) (j + m)) (sc : rh_s S hc gc)
    (c2 : rD gc (.inl 84) 0 = ((E + 1 : Nat) : Int)) (c3 : rD gc (.inl 84) 1 = 0) (r2 : rD gr (.inl 105) 24 = ((E + 1 : Nat) : Int)) (r3 : rD gr (.inl 105) 25 = 0)
    (new : rh_e gc gr S (fun j s k => if j ≤ E then V (j + m) s k else rD gc (.inr (s, 7)) k) E) : rh_H gc gr S (fun j s k => if j ≤ E then V (j + m) s k else rD gc (.inr (s, 7)) k) (E + 1) 0 := by
  obtain ⟨h1, h2, h3, h4, h5, h6, h7⟩ := H
  refine ⟨c2, c3, r2, r3, by omega, fun s k _ => if_neg (by omega), fun j hj => ?_⟩
  by_cases e : j = E
  · rw [e]
    exact new
  · refine rh_e.x (m := m) (V := V) (c1 j (by omega)).1 (c1 j (by omega)).2 (r1 j (by omega)) sc (Nat.le_refl _) (fun s k _ => ⟨if_pos (by omega), ?_⟩) (fun s k l1 l2 => by omega) (h7 (j + m) (by omega))
    rw [if_pos (by omega), show j + 1 + m = j + m + 1 by omega]
end REE
