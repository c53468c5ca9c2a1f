/-! ===== put, crack, stroke: alike, and told alike ===== -/
section RFF
variable {h h' g hc hr gc gr : mx_H} {S N s i j n m k c C F u v o D U E : Nat} {a a1 a2 a3 a4 a5 b1 p x y d e w : Int32} {V : Nat → Nat → Nat → Int}
theorem k_40 : (40 : Int32).toInt = 40 := rfl
theorem rs_u.refl : rs_u S h h := ⟨rfl, rfl, fun _ => rfl, fun _ => rfl, rfl, rfl, fun _ => rfl, fun _ _ _ _ _ => rfl⟩
theorem rs_v.refl : rs_v S h h := ⟨rfl, rfl, fun _ => rfl, fun _ => rfl, fun _ _ _ _ _ => rfl⟩
/-- fields' numbers: the class's, the reference's -/
def rq_f (o : Nat) (a1 b1 : Int32) : Prop := (o = 2 ∧ a1 = 0 ∧ b1 = 0) ∨ (o = 3 ∧ a1 = 1 ∧ b1 = 1) ∨ (o = 1 ∧ a1 = 3 ∧ b1 = 5) ∨ (o = 4 ∧ a1 = 2 ∧ b1 = 2)
theorem rq_f.bd (f : rq_f o a1 b1) : 1 ≤ o ∧ o ≤ 4 := by
  unfold rq_f at f
  omega
theorem C66c (f : rq_f o a1 b1) (ha : a2.toInt = (c : Int)) : f66 s a1 a2 h = h.2.1 (.inr (s, o)) c := by
  rw [f66_eq]
  rcases f with ⟨t, e1, -⟩ | ⟨t, e1, -⟩ | ⟨t, e1, -⟩ | ⟨t, e1, -⟩
  · rw [t, e1, if_pos rfl, g66_32_eq, i_cl ha]
  · rw [t, e1, if_neg (by decide), if_pos rfl, g66_39_eq, i_cl ha]
  · rw [t, e1, if_neg (by decide), if_neg (by decide), if_neg (by decide), if_pos rfl, g66_53_eq, i_cl ha]
  · rw [t, e1, if_neg (by decide), if_neg (by decide), if_pos rfl, g66_46_eq, i_cl ha]
theorem C67c (f : rq_f o a1 b1) (ha : a2.toInt = (c : Int)) : f67 s a1 a2 w h = mx_uI h (.inr (s, o)) c w := by
  rw [f67_eq]
  rcases f with ⟨t, e1, -⟩ | ⟨t, e1, -⟩ | ⟨t, e1, -⟩ | ⟨t, e1, -⟩
  · rw [t, e1, if_pos rfl, g67_32_eq, i_cl ha]
  · rw [t, e1, if_neg (by decide), if_pos rfl, g67_42_eq, i_cl ha]
  · rw [t, e1, if_neg (by decide), if_neg (by decide), if_neg (by decide), if_pos rfl, g67_62_eq, i_cl ha]
  · rw [t, e1, if_neg (by decide), if_neg (by decide), if_pos rfl, g67_52_eq, i_cl ha]
theorem R200c {q : Nat} (f : rq_f o a1 b1) (hp : p.toInt = (q : Int)) (b : o = 4 → w = 0 ∨ w = 1) : f200 b1 p w a5 h = mx_uI h (.inl (106 + o)) q w := by
  rw [f200_eq]
  rcases f with ⟨t, -, e1⟩ | ⟨t, -, e1⟩ | ⟨t, -, e1⟩ | ⟨t, -, e1⟩
  · rw [t, e1, if_pos rfl, g200_36_eq, i_cl hp]
  · rw [t, e1, if_neg (by decide), if_pos rfl, g200_46_eq, i_cl hp]
  · rw [t, e1, if_neg (by decide), if_neg (by decide), if_neg (by decide), if_neg (by decide), if_neg (by decide), g200_101_eq, i_cl hp]
  · rw [t, e1, if_neg (by decide), if_neg (by decide), if_pos rfl, g200_56_eq, i_cl hp]
    rcases b t with e2 | e2
    · rw [e2, if_pos (by decide)]
      rfl
    · rw [e2, if_neg (by decide)]
      rfl
theorem C17f (hD : rD h (.inl 84) 0 = D) (D40 : D ≤ 40) (R : ∀ j, j < D → ∃ t, h.2.2.2 (.inl 85) j = some (.inr (t, 0))) : rh_fc h (f17 s a2 a3 a4 a5 h) := by
  rcases C17 (s := s) (a2 := a2) (a3 := a3) (a4 := a4) (a5 := a5) hD D40 R with ⟨-, K⟩ | ⟨-, K⟩
  · exact K.1
  · exact K.1
theorem R198f (hD : rD h (.inl 105) 24 = D) (D40 : D ≤ 40) : rh_fr h (f198 a1 a2 a3 a4 a5 h) := by
  rcases R198 (a1 := a1) (a2 := a2) (a3 := a3) (a4 := a4) (a5 := a5) hD D40 with ⟨-, K⟩ | ⟨-, K⟩
  · exact K.1
  · exact K.1
theorem rh_H.R (H : rh_H hc hr S V D U) : ∀ j, j < D → ∃ t, hc.2.2.2 (.inl 85) j = some (.inr (t, 0)) := fun j hj => by
  obtain ⟨s, -, e, -⟩ := H.2.2.2.2.2.2 j (by omega)
  exact ⟨s, e⟩
/-- both sides: an entry more; what it is of is told by the new heaps -/
theorem rq_add {kc : mx_H} (H : rh_H hc hr S V D U) (k84 : rD kc (.inl 84) 0 = D) (k85 : ∀ i, kc.2.2.2 (.inl 85) i = hc.2.2.2 (.inl 85) i) (kq : ∀ q i, 86 ≤ q → q ≤ 89 → kc.2.1 (.inl q) i = hc.2.1 (.inl q) i) (ks : rh_s S hc kc) (gq : ∀ q i, 123 ≤ q → q ≤ 127 → gr.2.1 (.inl q) i = (f198 b1 p x y w hr).2.1 (.inl q) i) (g24 : ∀ i, i = 24 ∨ i = 25 → gr.2.1 (.inl 105) i = (f198 b1 p x y w hr).2.1 (.inl 105) i)
    (new : ∀ (V' : Nat → Nat → Nat → Int) (gc : mx_H) (E : Nat), gc.2.2.2 (.inl 85) E = some (.inr (s, 0)) → gc.2.1 (.inl 86) E = a2 → gc.2.1 (.inl 87) E = a3 → gc.2.1 (.inl 88) E = a4 → gc.2.1 (.inl 89) E = a5 → gr.2.1 (.inl 123) E = b1 → gr.2.1 (.inl 124) E = p → gr.2.1 (.inl 125) E = x → gr.2.1 (.inl 126) E = y → gr.2.1 (.inl 127) E = w → (∀ q i, gc.2.1 (.inr q) i = kc.2.1 (.inr q) i) → (∀ t k, t < S → V' E t k = rD hc (.inr (t, 7)) k) → (∀ t k, t < S → V' (E + 1) t k = rD kc (.inr (t, 7)) k) → rh_e gc gr S V' E) :
    ∃ V' D' U', rh_H (f17 s a2 a3 a4 a5 kc) gr S V' D' U' := by
  obtain ⟨h1, h2, h3, h4, h5, h6, h7⟩ := id H
  have go : ∀ E m, E + m = D → E < 40 → ka_C kc (f17 s a2 a3 a4 a5 kc) s a2 a3 a4 a5 E m → ka_R hr (f198 b1 p x y w hr) b1 p x y w E m → ∃ V' D' U', rh_H (f17 s a2 a3 a4 a5 kc) gr S V' D' U' := fun E m hm E40 KC KR => by
    obtain ⟨k1, k2, k3, k4, k5, k6, k7, k8, k9⟩ := KC
    obtain ⟨r1, r2, r3, r4, r5, r6, r7, r8, r9⟩ := KR
    refine ⟨_, E + 1, 0, rh_add H hm E40 (fun j hj => ⟨(k4 j hj).1.trans (k85 _), fun q l1 l2 => ((k4 j hj).2 q l1 l2).trans (kq q _ l1 l2)⟩) (fun j hj q l1 l2 => (gq q j l1 l2).trans (r4 j hj q l1 l2)) (fun t ht => ⟨(k1.2.2.1 (t, 0) 6).trans (ks t ht).1, fun k => ⟨(k1.2.2.1 (t, 5) k).trans ((ks t ht).2 k).1, (k1.2.2.1 (t, 6) k).trans ((ks t ht).2 k).2⟩⟩) k2 k3 ?_ ?_ (new _ _ _ k5 k6 k7 k8 k9 ?_ ?_ ?_ ?_ ?_ k1.2.2.1 (fun t k ht => ?_) (fun t k ht => ?_))⟩
    · unfold rD
      rw [g24 24 (Or.inl rfl)]
      exact r2
    · unfold rD
      rw [g24 25 (Or.inr rfl)]
      exact r3
    · exact (gq 123 E (by decide) (by decide)).trans r5
    · exact (gq 124 E (by decide) (by decide)).trans r6
    · exact (gq 125 E (by decide) (by decide)).trans r7
    · exact (gq 126 E (by decide) (by decide)).trans r8
    · exact (gq 127 E (by decide) (by decide)).trans r9
    · show (if E ≤ E then V (E + m) t k else rD (f17 s a2 a3 a4 a5 kc) (.inr (t, 7)) k) = _
      rw [if_pos (Nat.le_refl _), hm]
      exact h6 t k ht
    · show (if E + 1 ≤ E then V (E + 1 + m) t k else rD (f17 s a2 a3 a4 a5 kc) (.inr (t, 7)) k) = _
      rw [if_neg (by omega)]
      unfold rD
      rw [k1.2.2.1 (t, 7) k]
  have R' : ∀ j, j < D → ∃ t, kc.2.2.2 (.inl 85) j = some (.inr (t, 0)) := fun j hj => by
    obtain ⟨t, e⟩ := H.R j hj
    exact ⟨t, (k85 j).trans e⟩
  rcases C17 (s := s) (a2 := a2) (a3 := a3) (a4 := a4) (a5 := a5) k84 (by omega) R' with ⟨c1, KC⟩ | ⟨c1, KC⟩
  · rcases R198 (a1 := b1) (a2 := p) (a3 := x) (a4 := y) (a5 := w) h3 (by omega) with ⟨-, KR⟩ | ⟨c2, KR⟩
    · exact go D 0 rfl c1 KC KR
    · omega
  · rcases R198 (a1 := b1) (a2 := p) (a3 := x) (a4 := y) (a5 := w) h3 (by omega) with ⟨c2, KR⟩ | ⟨-, KR⟩
    · omega
    · exact go 39 1 (by omega) (by omega) KC KR
/-- a corner is set and told, on both sides -/
theorem rq_corner (A : rs_A hc hr S N) (H : rh_H hc hr S V D U) (hs : s < S) (c6 : c < 6) (f : rq_f o a1 b1) (ha : a2.toInt = (c : Int)) (hp : p.toInt = ((6 * s + c : Nat) : Int)) (ew : hc.2.1 (.inr (s, o)) c = w) (b4 : o = 4 → (w = 0 ∨ w = 1) ∧ (x = 0 ∨ x = 1)) :
    rs_A (f17 s a1 a2 w x (mx_uI hc (.inr (s, o)) c x)) (mx_uI (f198 b1 p w x 0 hr) (.inl (106 + o)) (6 * s + c) x) S N ∧ ∃ V' D' U', rh_H (f17 s a1 a2 w x (mx_uI hc (.inr (s, o)) c x)) (mx_uI (f198 b1 p w x 0 hr) (.inl (106 + o)) (6 * s + c) x) S V' D' U' := by
  obtain ⟨h1, h2, h3, h4, h5, h6, h7⟩ := id H
  obtain ⟨o1, o4⟩ := f.bd
  have fr := R198f (a1 := b1) (a2 := p) (a3 := w) (a4 := x) (a5 := 0) h3 (by omega)
  have fc := C17f (s := s) (a2 := a1) (a3 := a2) (a4 := w) (a5 := x) (h := mx_uI hc (.inr (s, o)) c x) (D := D) h1 (by omega) H.R
  refine ⟨(((A.g rs_u.refl fr.v).corner hs o1 o4 c6).g fc.u rs_v.refl), rq_add (b1 := b1) (p := p) (x := w) (y := x) (w := 0) H (kc := mx_uI hc (.inr (s, o)) c x) h1 (fun _ => rfl) (fun _ _ _ _ => rfl) (fun t ht => ⟨?_, fun k => ⟨?_, ?_⟩⟩) (fun q i l1 l2 => ?_) (fun i hi => ?_) (fun V' g E k5 k6 k7 k8 k9 r5 r6 r7 r8 r9 gi v0 v1 => ?_)⟩
  · exact rI_a (fun z => by
      cases z
      omega)
  · exact rI_a (fun z => by
      cases z
      omega)
  · exact rI_a (fun z => by
      cases z
      omega)
  · rw [rN (by omega)]
  · rw [rN (by omega)]
  · refine ⟨s, hs, k5, Or.inl ⟨⟨o, c, c6, ?_, ?_, ?_, ?_, ?_⟩, fun t k ht => ?_⟩⟩
    · unfold rD
      rw [k7]
      exact ha
    · unfold rD
      rw [r6]
      exact hp
    · rw [k8, r7]
    · rw [k9, r8]
    · rw [k6, r5, k8, k9]
      rcases f with ⟨t, q1, q2⟩ | ⟨t, q1, q2⟩ | ⟨t, q1, q2⟩ | ⟨t, q1, q2⟩
      · exact Or.inl ⟨t, q1, q2⟩
      · exact Or.inr (Or.inl ⟨t, q1, q2⟩)
      · exact Or.inr (Or.inr (Or.inl ⟨t, q1, q2⟩))
      · exact Or.inr (Or.inr (Or.inr ⟨t, q1, q2, (b4 t).1, (b4 t).2⟩))
    · rw [v0 t k ht, v1 t k ht]
      unfold rD
      rw [rI_a (fun z => by
        cases z
        omega)]
theorem rs_k.b (Q : rs_k hc hr s C F k u v ∨ rs_k hc hr s C F k v u) : u < C ∧ v < C ∧ u ≠ v ∧ rD hc (.inr (s, 5)) k = ((min u v : Nat) : Int) ∧ rD hc (.inr (s, 6)) k = ((max u v : Nat) : Int) ∧ rD hr (.inl 113) (36 * s + 6 * u + v) = ((F + k + 1 : Nat) : Int) ∧ rD hr (.inl 113) (36 * s + 6 * v + u) = ((F + k + 1 : Nat) : Int) ∧ hr.2.1 (.inl 111) (36 * s + 6 * u + v) = hc.2.1 (.inr (s, 7)) k ∧ hr.2.1 (.inl 112) (36 * s + 6 * u + v) = hc.2.1 (.inr (s, 8)) k := by
  rcases Q with Q | Q
  · exact ⟨Q.1, Q.2.1, Q.2.2.1, Q.2.2.2.1, Q.2.2.2.2.1, Q.2.2.2.2.2.1, Q.2.2.2.2.2.2.1, Q.2.2.2.2.2.2.2.1, Q.2.2.2.2.2.2.2.2.2.1⟩
  · have q1 := Q.2.2.1
    have q2 := Q.2.2.2.1
    have q3 := Q.2.2.2.2.1
    exact ⟨Q.2.1, Q.1, by omega, by omega, by omega, Q.2.2.2.2.2.2.1, Q.2.2.2.2.2.1, Q.2.2.2.2.2.2.2.2.1, Q.2.2.2.2.2.2.2.2.2.2.1⟩
theorem rs_A.piece2 (A : rs_A hc hr S N) (hs : s < S) (Ds : rs_D hc hr N s C n F) (hk : k < n) (Q : rs_k hc hr s C F k u v ∨ rs_k hc hr s C F k v u) (w : rp_w hr gr s u v d e) (hde : e.toInt ≤ d.toInt) : rs_A (mx_uI (mx_uI hc (.inr (s, 7)) k d) (.inr (s, 8)) k e) gr S N := by
  rcases Q with Q | Q
  · exact A.piece hs Ds hk Q w hde
  · exact A.piece hs Ds hk Q (w.sy (fun z => Q.2.2.1 z.symm)) hde
theorem rs_k.le (Q : rs_k hc hr s C F k u v ∨ rs_k hc hr s C F k v u) : rD hc (.inr (s, 8)) k ≤ rD hc (.inr (s, 7)) k := by
  rcases Q with Q | Q
  · exact Q.2.2.2.2.2.2.2.2.2.2.2.2
  · exact Q.2.2.2.2.2.2.2.2.2.2.2.2
/-- a piece is set and told, on both sides -/
theorem rq_piece {X Y cb ca : Int} (A : rs_A hc hr S N) (H : rh_H hc hr S V D U) (hs : s < S) (Ds : rs_D hc hr N s C n F) (hk : k < n) (Q : rs_k hc hr s C F k u v ∨ rs_k hc hr s C F k v u) (ha : a2.toInt = (k : Int)) (hp : p.toInt = ((36 * s + 6 * u + v : Nat) : Int)) (e4 : a4.toInt = 10 * X + cb) (e5 : a5.toInt = 10 * Y + ca) (bX : 0 ≤ X ∧ X ≤ 9 ∧ 0 ≤ Y ∧ Y ≤ 9 ∧ 0 ≤ cb ∧ cb ≤ 9 ∧ 0 ≤ ca ∧ ca ≤ 9 ∧ cb ≤ X ∧ ca ≤ Y) (hE : e.toInt = ca) (hX : rD hc (.inr (s, 7)) k = X) (hY : d.toInt = Y)
    (cd : (b1 = 3 ∧ x.toInt = cb ∧ y.toInt = ca ∧ X = Y) ∨ (b1 = 4 ∧ x.toInt = X ∧ y.toInt = Y ∧ w.toInt = cb ∧ ca = min cb Y)) (W : rp_w (f198 b1 p x y w hr) gr s u v d e) :
    rs_A (f17 s 4 a2 a4 a5 (mx_uI (mx_uI hc (.inr (s, 7)) k d) (.inr (s, 8)) k e)) gr S N ∧ ∃ V' D' U', rh_H (f17 s 4 a2 a4 a5 (mx_uI (mx_uI hc (.inr (s, 7)) k d) (.inr (s, 8)) k e)) gr S V' D' U' := by
  obtain ⟨h1, h2, h3, h4, h5, h6, h7⟩ := id H
  have C6 := Ds.2.1
  have fr := R198f (a1 := b1) (a2 := p) (a3 := x) (a4 := y) (a5 := w) h3 (by omega)
  have fc := C17f (s := s) (a2 := 4) (a3 := a2) (a4 := a4) (a5 := a5) (h := mx_uI (mx_uI hc (.inr (s, 7)) k d) (.inr (s, 8)) k e) (D := D) h1 (by omega) H.R
  have fv := fr.v (S := S)
  have fnN := Ds.2.2.1
  have Ds' : rs_D hc (f198 b1 p x y w hr) N s C n F := Ds.x (Nat.le_refl _) (fun _ _ _ => rfl) (fv.2.2.2.2 s hs) (fun i _ => ⟨fv.2.2.2.1 i, rfl⟩)
  have kx : ∀ u v, rs_k hc hr s C F k u v → rs_k hc (f198 b1 p x y w hr) s C F k u v := fun u v q => rs_k.x C6 (N := N) (by omega) (fun _ _ _ => rfl) (fv.2.2.2.2 s hs) (fun i _ => fv.2.2.2.1 i) q
  have Q' : rs_k hc (f198 b1 p x y w hr) s C F k u v ∨ rs_k hc (f198 b1 p x y w hr) s C F k v u := by
    rcases Q with q | q
    · exact Or.inl (kx _ _ q)
    · exact Or.inr (kx _ _ q)
  have A' : rs_A hc (f198 b1 p x y w hr) S N := A.g rs_u.refl fv
  have cl : ∀ t q i, ¬ (t = s ∧ (q = 7 ∨ q = 8) ∧ i = k) → (mx_uI (mx_uI hc (.inr (s, 7)) k d) (.inr (s, 8)) k e).2.1 (.inr (t, q)) i = hc.2.1 (.inr (t, q)) i := fun t q i z => (if_neg (fun z' => by
    have z1 := z'.1
    have z2 := z'.2
    cases z1
    exact z ⟨rfl, Or.inr rfl, z2⟩)).trans (if_neg (fun z' => by
    have z1 := z'.1
    have z2 := z'.2
    cases z1
    exact z ⟨rfl, Or.inl rfl, z2⟩))
  obtain ⟨q1, q2, q3, q4, q5, q6, q7, q8, q9⟩ := rs_k.b Q
  have n6 := Ds.2.2.2.2.2.1
  refine ⟨(A'.piece2 hs Ds' hk Q' W (by omega)).g fc.u rs_v.refl, rq_add (b1 := b1) (p := p) (x := x) (y := y) (w := w) H (kc := mx_uI (mx_uI hc (.inr (s, 7)) k d) (.inr (s, 8)) k e) h1 (fun _ => rfl) (fun _ _ _ _ => rfl) (fun t ht => ⟨cl t 0 6 (by omega), fun i => ⟨cl t 5 i (by omega), cl t 6 i (by omega)⟩⟩) (fun q i l1 l2 => W.2.2.2.2.2 q i (by omega) (by omega)) (fun i hi => W.2.2.2.2.2 105 i (by omega) (by omega)) (fun V' g E k5 k6 k7 k8 k9 r5 r6 r7 r8 r9 gi v0 v1 => ?_)⟩
  have c7 : (mx_uI (mx_uI hc (.inr (s, 7)) k d) (.inr (s, 8)) k e).2.1 (.inr (s, 7)) k = d := by rw [rS (by decide), rI_s]
  refine ⟨s, hs, k5, Or.inr ⟨k, u, v, X, Y, cb, ca, k6, ?_, ?_, ⟨by omega, by omega, q3⟩, ?_, ?_, ?_, ?_, ?_, bX, ?_, ?_, fun t i ht z => ?_, ?_⟩⟩
  · unfold rD
    rw [k7]
    exact ha
  · unfold rD
    rw [gi (s, 0) 6, cl s 0 6 (by omega)]
    unfold rD at n6
    omega
  · unfold rD
    rw [gi (s, 5) k, cl s 5 k (by omega)]
    exact q4
  · unfold rD
    rw [gi (s, 6) k, cl s 6 k (by omega)]
    exact q5
  · unfold rD
    rw [r6]
    exact hp
  · unfold rD
    rw [k8]
    exact e4
  · unfold rD
    rw [k9]
    exact e5
  · rw [v0 s k hs]
    exact hX
  · rw [v1 s k hs]
    unfold rD
    rw [c7]
    exact hY
  · rw [v0 t i ht, v1 t i ht]
    unfold rD
    rw [cl t 7 i (fun z' => z ⟨z'.1, z'.2.2⟩)]
  · unfold rD
    rw [r5, r7, r8, r9]
    exact cd
theorem C170c (f : rq_f o a1 b1) (ha : a2.toInt = (c : Int)) : f170 s a1 a2 x h = if h.2.1 (.inr (s, o)) c = x then (h.2.1 (.inr (s, o)) c, h) else (h.2.1 (.inr (s, o)) c, f17 s a1 a2 (h.2.1 (.inr (s, o)) c) x (mx_uI h (.inr (s, o)) c x)) := by
  rw [f170_eq, C66c f ha, C67c f ha]
  rfl
/-- what a setting of a corner answers, on both sides -/
theorem rq_put (A : rs_A hc hr S N) (H : rh_H hc hr S V D U) (hs : s < S) (c6 : c < 6) (f : rq_f o a1 b1) (ha : a2.toInt = (c : Int)) (hp : p.toInt = ((6 * s + c : Nat) : Int)) (ew : hc.2.1 (.inr (s, o)) c = w) (b4 : o = 4 → (w = 0 ∨ w = 1) ∧ (x = 0 ∨ x = 1)) {rr : Int32 × mx_H} (er : rr = if w ≠ x then (w, f200 b1 p x 0 (f198 b1 p w x 0 hr)) else (w, hr)) :
    (f170 s a1 a2 x hc).1 = rr.1 ∧ rs_A (f170 s a1 a2 x hc).2 rr.2 S N ∧ ∃ V' D' U', rh_H (f170 s a1 a2 x hc).2 rr.2 S V' D' U' := by
  rw [er, C170c f ha, ew, R200c f hp (fun t => (b4 t).2)]
  by_cases e : w = x
  · rw [if_pos e, if_neg (fun z => z e)]
    exact ⟨rfl, A, V, D, U, H⟩
  · rw [if_neg e, if_pos e]
    exact ⟨rfl, rq_corner A H hs c6 f ha hp ew b4⟩
set_option maxHeartbeats 8000000 in
/-- put -/
theorem rs_put (A : rs_A hc hr S N) (H : rh_H hc hr S V D U) (hb : ∀ i, hr.2.1 (.inl 110) i = 0 ∨ hr.2.1 (.inl 110) i = 1) : (f106 a1 a2 a3 a4 hc).1 = (f201 a1 a2 a3 a4 hr).1 ∧ rs_A (f106 a1 a2 a3 a4 hc).2 (f201 a1 a2 a3 a4 hr).2 S N ∧ ∃ V' D' U', rh_H (f106 a1 a2 a3 a4 hc).2 (f201 a1 a2 a3 a4 hr).2 S V' D' U' := by
  obtain ⟨A1, A2, A3, A4, A5, A6, A7, A8, A9, A10⟩ := id A
  have bad : g201_46 hr = (-1, hr) := g201_46_eq hr
  have fin : f106 a1 a2 a3 a4 hc = (-1, hc) → f201 a1 a2 a3 a4 hr = (-1, hr) → (f106 a1 a2 a3 a4 hc).1 = (f201 a1 a2 a3 a4 hr).1 ∧ rs_A (f106 a1 a2 a3 a4 hc).2 (f201 a1 a2 a3 a4 hr).2 S N ∧ ∃ V' D' U', rh_H (f106 a1 a2 a3 a4 hc).2 (f201 a1 a2 a3 a4 hr).2 S V' D' U' := fun q1 q2 => by
    rw [q1, q2]
    exact ⟨rfl, A, V, D, U, H⟩
  rcases C166 (a := a1) A with ⟨s, lt, h1, e1, e1'⟩ | ⟨e1, e1'⟩
  · obtain ⟨C, n, F, Ds⟩ := (A9 s lt).2
    rcases C164 (x := a2) h1 Ds.2.2.2.1 Ds.2.2.2.2.1 Ds.2.1 with ⟨c, hc1, hx, g1, g1'⟩ | ⟨g1, g1'⟩
    · have C6 := Ds.2.1
      have hp := w6 h1 hx (show s ≤ 12 by omega) (show c < 6 by omega)
      obtain ⟨b1, b2, b3, b4⟩ := Ds.2.2.2.2.2.2.2.1 c hc1
      have K : f106 a1 a2 a3 a4 hc = if f157 a3 0 2 ≠ 0 then (if a3 ≠ 2 then (if f157 a4 0 9 ≠ 0 then f170 s a3 a2 a4 hc else (-1, hc)) else (if f157 a4 0 1 ≠ 0 then f170 s a3 a2 a4 hc else (-1, hc))) else (-1, hc) := by
        rw [f106_eq, e1]
        show (if f164 s a2 hc = 0 then _ else _) = _
        rw [if_neg (by rw [g1]; exact n10)]
        rfl
      have T := f201_eq a1 a2 a3 a4 hr
      rw [if_neg (by rw [e1']; exact n10), if_neg (by rw [g1']; exact n10)] at T
      by_cases q : 0 ≤ a3.toInt ∧ a3.toInt ≤ 2
      · have y1 : f157 a3 0 2 ≠ 0 := by
          rw [w157_1 rfl k_0 k_2 q]
          exact n10
        have y2 : ¬ f173 a3 0 2 = 0 := by
          rw [w173_1 rfl k_0 k_2 q]
          exact n10
        rw [if_neg y2] at T
        rw [if_pos y1] at K
        rcases (show a3.toInt = 0 ∨ a3.toInt = 1 ∨ a3.toInt = 2 by omega) with z | z | z
        · have e3 : a3 = 0 := i_eq z k_0 rfl
          subst e3
          rw [if_pos (by decide), w_ws] at K
          rw [if_pos (by decide)] at T
          by_cases v9 : f173 a4 0 9 ≠ 0
          · rw [if_pos v9] at K T
            rw [if_neg (by decide), i_cl hp] at T
            rw [K]
            exact rq_put A H lt (by omega) (o := 2) (b1 := 0) (Or.inl ⟨rfl, rfl, rfl⟩) hx hp b2 (fun t => by omega) T
          · rw [if_neg v9] at K T
            exact fin K (T.trans bad)
        · have e3 : a3 = 1 := i_eq z k_1 rfl
          subst e3
          rw [if_pos (by decide), w_ws] at K
          rw [if_pos (by decide)] at T
          by_cases v9 : f173 a4 0 9 ≠ 0
          · rw [if_pos v9] at K T
            rw [if_pos (by decide), if_neg (by decide), i_cl hp] at T
            rw [K]
            exact rq_put A H lt (by omega) (o := 3) (b1 := 1) (Or.inr (Or.inl ⟨rfl, rfl, rfl⟩)) hx hp b3 (fun t => by omega) T
          · rw [if_neg v9] at K T
            exact fin K (T.trans bad)
        · have e3 : a3 = 2 := i_eq z k_2 rfl
          subst e3
          rw [if_neg (by decide), w_ws] at K
          rw [if_neg (by decide)] at T
          by_cases v9 : f173 a4 0 1 ≠ 0
          · have x01 : a4 = 0 ∨ a4 = 1 := by
              by_cases q4 : 0 ≤ a4.toInt ∧ a4.toInt ≤ 1
              · rcases (show a4.toInt = 0 ∨ a4.toInt = 1 by omega) with t | t
                · exact Or.inl (i_eq t k_0 rfl)
                · exact Or.inr (i_eq t k_1 rfl)
              · exact absurd (w173_0 rfl k_0 k_1 q4) v9
            rw [if_pos v9] at K T
            rw [if_pos (by decide), if_pos (by decide), i_cl hp] at T
            rw [K]
            rcases hb (6 * s + c) with t | t
            · rw [if_pos t] at T
              exact rq_put A H lt (by omega) (o := 4) (b1 := 2) (w := 0) (Or.inr (Or.inr (Or.inr ⟨rfl, rfl, rfl⟩))) hx hp (b4.trans t) (fun _ => ⟨Or.inl rfl, x01⟩) T
            · rw [if_neg (by rw [t]; exact n10)] at T
              exact rq_put A H lt (by omega) (o := 4) (b1 := 2) (w := 1) (Or.inr (Or.inr (Or.inr ⟨rfl, rfl, rfl⟩))) hx hp (b4.trans t) (fun _ => ⟨Or.inr rfl, x01⟩) T
          · rw [if_neg v9] at K T
            exact fin K (T.trans bad)
      · rw [if_neg (by rw [w157_0 rfl k_0 k_2 q]; exact fun t => t rfl)] at K
        rw [if_pos (w173_0 rfl k_0 k_2 q)] at T
        exact fin K (T.trans bad)
    · refine fin ?_ ?_
      · rw [f106_eq, e1]
        show (if f164 s a2 hc = 0 then _ else _) = _
        rw [if_pos g1]
      · rw [f201_eq, if_neg (by rw [e1']; exact n10), if_pos g1', bad]
  · refine fin ?_ ?_
    · rw [f106_eq, e1]
      rfl
    · rw [f201_eq, if_pos e1', bad]
end RFF
