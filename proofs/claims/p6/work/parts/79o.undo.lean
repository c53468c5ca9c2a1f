/-! ===== undo and redo ===== -/
section RHH
variable {h h' g hc hr gc gr kc kr : mx_H} {S N s i j n m k c C F u v o D U E : Nat} {a a1 a2 a3 a4 a5 b1 p x y d e w z : Int32} {V : Nat → Nat → Nat → Int}
/-- what a setting leaves alone -/
def rq_c (h g : mx_H) : Prop := g.1 = h.1 ∧ g.2.2 = h.2.2 ∧ (∀ q i, g.2.1 (.inl q) i = h.2.1 (.inl q) i) ∧ ∀ t q i, q = 0 ∨ q = 5 ∨ q = 6 → g.2.1 (.inr (t, q)) i = h.2.1 (.inr (t, q)) i
def rq_r (h g : mx_H) : Prop := g.1 = h.1 ∧ g.2.2 = h.2.2 ∧ (∀ q i, g.2.1 (.inr q) i = h.2.1 (.inr q) i) ∧ ∀ q i, q < 107 ∨ 112 < q → g.2.1 (.inl q) i = h.2.1 (.inl q) i
/-- the class's side and the reference's, at a corner's entry -/
theorem rq_ac (A : rs_A kc kr S N) (hs : s < S) (R : rh_c kc kr s j) (ew : (w = kc.2.1 (.inl 88) j ∧ x = kr.2.1 (.inl 125) j) ∨ (w = kc.2.1 (.inl 89) j ∧ x = kr.2.1 (.inl 126) j)) :
    rs_A (f67 s (kc.2.1 (.inl 86) j) (kc.2.1 (.inl 87) j) w kc) (f200 (kr.2.1 (.inl 123) j) (kr.2.1 (.inl 124) j) x y kr) S N ∧ rq_c kc (f67 s (kc.2.1 (.inl 86) j) (kc.2.1 (.inl 87) j) w kc) ∧ rq_r kr (f200 (kr.2.1 (.inl 123) j) (kr.2.1 (.inl 124) j) x y kr) ∧ ∀ t i, (f67 s (kc.2.1 (.inl 86) j) (kc.2.1 (.inl 87) j) w kc).2.1 (.inr (t, 7)) i = kc.2.1 (.inr (t, 7)) i := by
  obtain ⟨o, c, c6, q1, q2, q3, q4, q5⟩ := R
  have f : rq_f o (kc.2.1 (.inl 86) j) (kr.2.1 (.inl 123) j) := by
    rcases q5 with ⟨t, z1, z2⟩ | ⟨t, z1, z2⟩ | ⟨t, z1, z2⟩ | ⟨t, z1, z2, -⟩
    · exact Or.inl ⟨t, z1, z2⟩
    · exact Or.inr (Or.inl ⟨t, z1, z2⟩)
    · exact Or.inr (Or.inr (Or.inl ⟨t, z1, z2⟩))
    · exact Or.inr (Or.inr (Or.inr ⟨t, z1, z2⟩))
  have wx : w = x := by
    rcases ew with ⟨z1, z2⟩ | ⟨z1, z2⟩
    · rw [z1, z2, q3]
    · rw [z1, z2, q4]
  have b4 : o = 4 → x = 0 ∨ x = 1 := fun t => by
    rcases q5 with ⟨t', -⟩ | ⟨t', -⟩ | ⟨t', -⟩ | ⟨-, -, -, z1, z2⟩
    · omega
    · omega
    · omega
    · rcases ew with ⟨y1, y2⟩ | ⟨y1, y2⟩
      · rw [y2, ← q3]
        exact z1
      · rw [y2, ← q4]
        exact z2
  obtain ⟨o1, o4⟩ := f.bd
  rw [C67c f q1, R200c f q2 b4, wx]
  refine ⟨A.corner hs o1 o4 c6, ⟨rfl, rfl, fun _ _ => rfl, fun t q i z => rI_a (fun z' => by
    cases z'
    omega)⟩, ⟨rfl, rfl, fun _ _ => rfl, fun q i z => rI_a (fun z' => by
    have := Sum.inl.inj z'
    omega)⟩, fun t i => rI_a (fun z' => by
    cases z'
    omega)⟩
/-- at a piece's entry -/
theorem rq_ap {X cz : Int} (A : rs_A kc kr S N) (hs : s < S) (f86 : kc.2.1 (.inl 86) j = 4) (q87 : rD kc (.inl 87) j = (k : Int)) (kn : (k : Int) < rD kc (.inr (s, 0)) 6) (uv : u < 6 ∧ v < 6 ∧ u ≠ v) (q5 : rD kc (.inr (s, 5)) k = ((min u v : Nat) : Int)) (q6 : rD kc (.inr (s, 6)) k = ((max u v : Nat) : Int)) (q124 : rD kr (.inl 124) j = ((36 * s + 6 * u + v : Nat) : Int))
    (hw : w.toInt = 10 * X + cz) (bX : 0 ≤ X ∧ X ≤ 9 ∧ 0 ≤ cz ∧ cz ≤ 9 ∧ cz ≤ X) (cd : (kr.2.1 (.inl 123) j = 3 ∧ x.toInt = cz ∧ rD kc (.inr (s, 7)) k = X) ∨ (kr.2.1 (.inl 123) j = 4 ∧ x.toInt = X ∧ y.toInt = cz)) :
    rs_A (f67 s (kc.2.1 (.inl 86) j) (kc.2.1 (.inl 87) j) w kc) (f200 (kr.2.1 (.inl 123) j) (kr.2.1 (.inl 124) j) x y kr) S N ∧ rq_c kc (f67 s (kc.2.1 (.inl 86) j) (kc.2.1 (.inl 87) j) w kc) ∧ rq_r kr (f200 (kr.2.1 (.inl 123) j) (kr.2.1 (.inl 124) j) x y kr) ∧ rD (f67 s (kc.2.1 (.inl 86) j) (kc.2.1 (.inl 87) j) w kc) (.inr (s, 7)) k = X ∧ ∀ t i, ¬ (t = s ∧ i = k) → (f67 s (kc.2.1 (.inl 86) j) (kc.2.1 (.inl 87) j) w kc).2.1 (.inr (t, 7)) i = kc.2.1 (.inr (t, 7)) i := by
  obtain ⟨A1, A2, A3, A4, A5, A6, A7, A8, A9, A10⟩ := id A
  obtain ⟨C, n, F, Ds⟩ := (A9 s hs).2
  have n6 := Ds.2.2.2.2.2.1
  have fn := Ds.2.2.1
  obtain ⟨u0, v0, Q0⟩ := Ds.2.2.2.2.2.2.2.2.2.1 k (by omega)
  have p4 := Q0.2.2.2.1
  have p5 := Q0.2.2.2.2.1
  have Q : rs_k kc kr s C F k u v ∨ rs_k kc kr s C F k v u := by
    have t : (u0 = u ∧ v0 = v) ∨ (u0 = v ∧ v0 = u) := by omega
    rcases t with ⟨t1, t2⟩ | ⟨t1, t2⟩
    · rw [t1, t2] at Q0
      exact Or.inl Q0
    · rw [t1, t2] at Q0
      exact Or.inr Q0
  obtain ⟨r1, r2, r3, r4, r5, r6, r7, r8, r9⟩ := rs_k.b Q
  obtain ⟨pd, pe⟩ := pk_d hw (by omega)
  have E : f200 (kr.2.1 (.inl 123) j) (kr.2.1 (.inl 124) j) x y kr = f199 (kr.2.1 (.inl 124) j) (w / 10) (w - w / 10 * 10) kr := by
    rcases cd with ⟨c1, c2, c3⟩ | ⟨c1, c2, c3⟩
    · rw [c1, R200p, i_cl q124, r8, i_eq c3 pd rfl, i_eq c2 pe rfl]
    · rw [c1, R200q, i_eq c2 pd rfl, i_eq c3 pe rfl]
  have W := R199 (hr := kr) (d := w / 10) (e := w - w / 10 * 10) (b := F + k) q124 uv.1 uv.2.1 uv.2.2 (by omega) r6 r7 (by omega)
  rw [E, f86, C67p q87]
  have cl : ∀ t q i, ¬ (t = s ∧ (q = 7 ∨ q = 8) ∧ i = k) → (mx_uI (mx_uI kc (.inr (s, 7)) k (w / 10)) (.inr (s, 8)) k (w - w / 10 * 10)).2.1 (.inr (t, q)) i = kc.2.1 (.inr (t, q)) i := fun t q i z => (if_neg (fun z' => by
    have z1 := z'.1
    have z2 := z'.2
    cases z1
    exact z ⟨rfl, Or.inr rfl, z2⟩)).trans (if_neg (fun z' => by
    have z1 := z'.1
    have z2 := z'.2
    cases z1
    exact z ⟨rfl, Or.inl rfl, z2⟩))
  refine ⟨A.piece2 hs Ds (by omega) Q W (by omega), ⟨rfl, rfl, fun _ _ => rfl, fun t q i z => cl t q i (by omega)⟩, ⟨W.1, W.2.1, W.2.2.1, fun q i z => W.2.2.2.2.2 q i (by omega) (by omega)⟩, ?_, fun t i z => cl t 7 i (fun z' => z ⟨z'.1, z'.2.2⟩)⟩
  unfold rD
  rw [rS (by decide), rI_s]
  exact pd
def k_19 (h : mx_H) : mx_H := mx_uI (mx_uI h (.inl 84) 0 (h.2.1 (.inl 84) 0 - 1)) (.inl 84) 1 (h.2.1 (.inl 84) 1 + 1)
def r_04 (h : mx_H) : mx_H := mx_uI (mx_uI h (.inl 105) 24 (h.2.1 (.inl 105) 24 - 1)) (.inl 105) 25 (h.2.1 (.inl 105) 25 + 1)
theorem C144 (hD : rD h (.inl 84) 0 = ((E + 1 : Nat) : Int)) (E40 : E < 40) (e85 : h.2.2.2 (.inl 85) E = some (.inr (s, 0))) : f144 h = ((f67 s (h.2.1 (.inl 86) E) (h.2.1 (.inl 87) E) (h.2.1 (.inl 88) E) (k_19 h)).2.1 (.inl 84) 0, f67 s (h.2.1 (.inl 86) E) (h.2.1 (.inl 87) E) (h.2.1 (.inl 88) E) (k_19 h)) := by
  have hE : (h.2.1 (.inl 84) 0 - 1).toInt = (E : Int) := (i_sub hD k_1 (by omega) (by omega)).trans (by omega)
  rw [f144_eq, if_pos (show h.2.1 (.inl 84) 0 ≠ 0 from i_ne hD k_0 (by omega)), f19_eq, if_pos (i_lt k_0 hD (by omega))]
  show x_h (x_opt (ml_sn (h.2.2.2 (.inl 85) (Int32.toNatClampNeg (h.2.1 (.inl 84) 0 - 1)))) (fun j1 => x_opt (ml_sn (h.2.2.2 (.inl 85) (Int32.toNatClampNeg (h.2.1 (.inl 84) 0 - 1)))) (fun j2 => f67 j2 (h.2.1 (.inl 86) (Int32.toNatClampNeg (h.2.1 (.inl 84) 0 - 1))) (h.2.1 (.inl 87) (Int32.toNatClampNeg (h.2.1 (.inl 84) 0 - 1))) (h.2.1 (.inl 88) (Int32.toNatClampNeg (h.2.1 (.inl 84) 0 - 1))) (k_19 h)) h) (k_19 h)) (fun h2 => (h2.2.1 (.inl 84) 0, h2)) = _
  rw [i_cl hE, x_opt_s e85, x_opt_s e85]
  rfl
theorem R204 (hD : rD h (.inl 105) 24 = ((E + 1 : Nat) : Int)) (E40 : E < 40) : f204 h = ((f200 (h.2.1 (.inl 123) E) (h.2.1 (.inl 124) E) (h.2.1 (.inl 125) E) (h.2.1 (.inl 127) E) (r_04 h)).2.1 (.inl 105) 24, f200 (h.2.1 (.inl 123) E) (h.2.1 (.inl 124) E) (h.2.1 (.inl 125) E) (h.2.1 (.inl 127) E) (r_04 h)) := by
  have hE : (h.2.1 (.inl 105) 24 - 1).toInt = (E : Int) := (i_sub hD k_1 (by omega) (by omega)).trans (by omega)
  rw [f204_eq, if_pos (show h.2.1 (.inl 105) 24 ≠ 0 from i_ne hD k_0 (by omega))]
  show ((f200 (h.2.1 (.inl 123) (Int32.toNatClampNeg (h.2.1 (.inl 105) 24 - 1))) (h.2.1 (.inl 124) (Int32.toNatClampNeg (h.2.1 (.inl 105) 24 - 1))) (h.2.1 (.inl 125) (Int32.toNatClampNeg (h.2.1 (.inl 105) 24 - 1))) (h.2.1 (.inl 127) (Int32.toNatClampNeg (h.2.1 (.inl 105) 24 - 1))) (r_04 h)).2.1 (.inl 105) 24, f200 (h.2.1 (.inl 123) (Int32.toNatClampNeg (h.2.1 (.inl 105) 24 - 1))) (h.2.1 (.inl 124) (Int32.toNatClampNeg (h.2.1 (.inl 105) 24 - 1))) (h.2.1 (.inl 125) (Int32.toNatClampNeg (h.2.1 (.inl 105) 24 - 1))) (h.2.1 (.inl 127) (Int32.toNatClampNeg (h.2.1 (.inl 105) 24 - 1))) (r_04 h)) = _
  rw [i_cl hE]
/-- counters of histories alone -/
theorem rs_A.c84 {x y : Int32} (A : rs_A hc hr S N) : rs_A (mx_uI (mx_uI hc (.inl 84) 0 x) (.inl 84) 1 y) hr S N := A
theorem rs_A.r24 {x y : Int32} (A : rs_A hc hr S N) : rs_A hc (mx_uI (mx_uI hr (.inl 105) 24 x) (.inl 105) 25 y) S N := A.g rs_u.refl ⟨rfl, rfl, fun _ => rfl, fun _ => rfl, fun s _ k i w' => by
  unfold rs_w at w'
  rw [rN (by omega), rN (by omega)]⟩
theorem rh_e.same (p85 : ∀ i, gc.2.2.2 (.inl 85) i = hc.2.2.2 (.inl 85) i) (p : ∀ q i, 86 ≤ q → q ≤ 89 → gc.2.1 (.inl q) i = hc.2.1 (.inl q) i) (r : ∀ q i, 123 ≤ q → q ≤ 127 → gr.2.1 (.inl q) i = hr.2.1 (.inl q) i) (sc : rh_s S hc gc) (e : rh_e hc hr S V j) : rh_e gc gr S V j :=
  rh_e.x (m := 0) (V := V) (p85 j) (fun q l1 l2 => p q j l1 l2) (fun q l1 l2 => r q j l1 l2) sc (Nat.le_refl _) (fun _ _ _ => ⟨rfl, rfl⟩) (fun s k l1 l2 => by omega) e
set_option maxHeartbeats 8000000 in
theorem rs_undo (A : rs_A hc hr S N) (H : rh_H hc hr S V D U) : (f144 hc).1 = (f204 hr).1 ∧ rs_A (f144 hc).2 (f204 hr).2 S N ∧ ∃ V' D' U', rh_H (f144 hc).2 (f204 hr).2 S V' D' U' := by
  obtain ⟨h1, h2, h3, h4, h5, h6, h7⟩ := id H
  cases D with
  | zero =>
    rw [f144_eq, if_neg (fun z => z (i_eq h1 k_0 rfl)), f204_eq, if_neg (fun z => z (i_eq h3 k_0 rfl))]
    exact ⟨rfl, A, V, 0, U, H⟩
  | succ E =>
    have ent := h7 E (by omega)
    obtain ⟨s, hs, e85, ee⟩ := id ent
    rw [C144 h1 (by omega) e85, R204 h3 (by omega)]
    have A' : rs_A (k_19 hc) (r_04 hr) S N := A.c84.r24
    have kE : (hc.2.1 (.inl 84) 0 - 1).toInt = (E : Int) := (i_sub h1 k_1 (by omega) (by omega)).trans (by omega)
    have rE : (hr.2.1 (.inl 105) 24 - 1).toInt = (E : Int) := (i_sub h3 k_1 (by omega) (by omega)).trans (by omega)
    have kU : (hc.2.1 (.inl 84) 1 + 1).toInt = ((U + 1 : Nat) : Int) := (i_add h2 k_1 (by omega) (by omega)).trans (by omega)
    have rU : (hr.2.1 (.inl 105) 25 + 1).toInt = ((U + 1 : Nat) : Int) := (i_add h4 k_1 (by omega) (by omega)).trans (by omega)
    have go : ∀ gc gr : mx_H, rs_A gc gr S N → rq_c (k_19 hc) gc → rq_r (r_04 hr) gr → (∀ t k, t < S → V E t k = rD gc (.inr (t, 7)) k) → gc.2.1 (.inl 84) 0 = gr.2.1 (.inl 105) 24 ∧ rs_A gc gr S N ∧ ∃ V' D' U', rh_H gc gr S V' D' U' := fun gc gr B fc fr vv => by
      have c0 : gc.2.1 (.inl 84) 0 = hc.2.1 (.inl 84) 0 - 1 := fc.2.2.1 84 0
      have c1 : gc.2.1 (.inl 84) 1 = hc.2.1 (.inl 84) 1 + 1 := fc.2.2.1 84 1
      have d0 : gr.2.1 (.inl 105) 24 = hr.2.1 (.inl 105) 24 - 1 := fr.2.2.2 105 24 (by omega)
      have d1 : gr.2.1 (.inl 105) 25 = hr.2.1 (.inl 105) 25 + 1 := fr.2.2.2 105 25 (by omega)
      refine ⟨?_, B, V, E, U + 1, ?_, ?_, ?_, ?_, by omega, vv, fun j hj => rh_e.same (hc := hc) (hr := hr) (fun i => ?_) (fun q i l1 l2 => ?_) (fun q i l1 l2 => ?_) (fun t ht => ⟨?_, fun k => ⟨?_, ?_⟩⟩) (h7 j (by omega))⟩
      · rw [c0, d0]
        exact i_eq kE rE rfl
      · unfold rD
        rw [c0]
        exact kE
      · unfold rD
        rw [c1]
        exact kU
      · unfold rD
        rw [d0]
        exact rE
      · unfold rD
        rw [d1]
        exact rU
      · rw [show gc.2.2.2 = hc.2.2.2 from congrArg Prod.snd fc.2.1]
      · refine (fc.2.2.1 q i).trans ?_
        unfold k_19
        rw [rN (by omega), rN (by omega)]
      · refine (fr.2.2.2 q i (by omega)).trans ?_
        unfold r_04
        rw [rN (by omega), rN (by omega)]
      · exact fc.2.2.2 t 0 6 (by omega)
      · exact fc.2.2.2 t 5 k (by omega)
      · exact fc.2.2.2 t 6 k (by omega)
    rcases ee with ⟨R, vv⟩ | ⟨k, u, v, X, Y, cb, ca, q1, q2, q3, q4, q5, q6, q7, q8, q9, q10, q11, q12, q13, q14⟩
    · obtain ⟨B, fc, fr, v7⟩ := rq_ac (kc := k_19 hc) (kr := r_04 hr) (w := hc.2.1 (.inl 88) E) (x := hr.2.1 (.inl 125) E) (y := hr.2.1 (.inl 127) E) A' hs R (Or.inl ⟨rfl, rfl⟩)
      refine go _ _ B fc fr (fun t k ht => ?_)
      rw [← vv t k ht, h6 t k ht]
      exact congrArg Int32.toInt (v7 t k).symm
    · obtain ⟨B, fc, fr, v7, v8⟩ := rq_ap (X := X) (cz := cb) (kc := k_19 hc) (kr := r_04 hr) (w := hc.2.1 (.inl 88) E) (x := hr.2.1 (.inl 125) E) (y := hr.2.1 (.inl 127) E) A' hs q1 q2 q3 q4 q5 q6 q7 q8 (by omega) (by
        rcases q14 with ⟨c1, c2, c3, c4⟩ | ⟨c1, c2, c3, c4, c5⟩
        · exact Or.inl ⟨c1, c2, (h6 s k hs).symm.trans (q12.trans c4.symm)⟩
        · exact Or.inr ⟨c1, c2, c4⟩)
      refine go _ _ B fc fr (fun t i ht => ?_)
      by_cases z : t = s ∧ i = k
      · rw [z.1, z.2, q11]
        exact v7.symm
      · rw [← q13 t i ht z, h6 t i ht]
        exact congrArg Int32.toInt (v8 t i z).symm
def k_20 (h : mx_H) : mx_H := mx_uI (mx_uI h (.inl 84) 0 (h.2.1 (.inl 84) 0 + 1)) (.inl 84) 1 (h.2.1 (.inl 84) 1 - 1)
def r_05 (h : mx_H) : mx_H := mx_uI (mx_uI h (.inl 105) 24 (h.2.1 (.inl 105) 24 + 1)) (.inl 105) 25 (h.2.1 (.inl 105) 25 - 1)
theorem C145 (hD : rD h (.inl 84) 0 = D) (D40 : D < 40) (hU : rD h (.inl 84) 1 = ((U + 1 : Nat) : Int)) (e85 : h.2.2.2 (.inl 85) D = some (.inr (s, 0))) : f145 h = ((k_20 (f67 s (h.2.1 (.inl 86) D) (h.2.1 (.inl 87) D) (h.2.1 (.inl 89) D) h)).2.1 (.inl 84) 1, k_20 (f67 s (h.2.1 (.inl 86) D) (h.2.1 (.inl 87) D) (h.2.1 (.inl 89) D) h)) := by
  rw [f145_eq, if_pos (show h.2.1 (.inl 84) 1 ≠ 0 from i_ne hU k_0 (by omega)), f20_eq, if_neg (i_nle hU k_0 (by omega)), if_pos (i_lt hD k_40 (by omega)), i_cl hD, x_opt_s e85, x_opt_s e85]
  rfl
theorem R205 (hD : rD h (.inl 105) 24 = D) (hU : rD h (.inl 105) 25 = ((U + 1 : Nat) : Int)) : f205 h = ((r_05 (f200 (h.2.1 (.inl 123) D) (h.2.1 (.inl 124) D) (h.2.1 (.inl 126) D) (f174 (h.2.1 (.inl 127) D) (h.2.1 (.inl 126) D)) h)).2.1 (.inl 105) 25, r_05 (f200 (h.2.1 (.inl 123) D) (h.2.1 (.inl 124) D) (h.2.1 (.inl 126) D) (f174 (h.2.1 (.inl 127) D) (h.2.1 (.inl 126) D)) h)) := by
  rw [f205_eq, if_pos (show h.2.1 (.inl 105) 25 ≠ 0 from i_ne hU k_0 (by omega)), i_cl hD]
  rfl
theorem f174_v {X Y : Int} (hx : x.toInt = X) (hy : y.toInt = Y) : (f174 x y).toInt = min X Y := by
  rw [f174_eq]
  by_cases t : y ≤ x
  · have t' := Int32.le_iff_toInt_le.mp t
    rw [if_pos t]
    omega
  · have t' : x.toInt < y.toInt := Int.not_le.mp (fun q => t (Int32.le_iff_toInt_le.mpr q))
    rw [if_neg t]
    omega
set_option maxHeartbeats 8000000 in
theorem rs_redo (A : rs_A hc hr S N) (H : rh_H hc hr S V D U) : (f145 hc).1 = (f205 hr).1 ∧ rs_A (f145 hc).2 (f205 hr).2 S N ∧ ∃ V' D' U', rh_H (f145 hc).2 (f205 hr).2 S V' D' U' := by
  obtain ⟨h1, h2, h3, h4, h5, h6, h7⟩ := id H
  cases U with
  | zero =>
    rw [f145_eq, if_neg (fun z => z (i_eq h2 k_0 rfl)), f205_eq, if_neg (fun z => z (i_eq h4 k_0 rfl))]
    exact ⟨rfl, A, V, D, 0, H⟩
  | succ U =>
    have ent := h7 D (by omega)
    obtain ⟨s, hs, e85, ee⟩ := id ent
    rw [C145 h1 (by omega) h2 e85, R205 h3 h4]
    have kE : (hc.2.1 (.inl 84) 0 + 1).toInt = ((D + 1 : Nat) : Int) := (i_add h1 k_1 (by omega) (by omega)).trans (by omega)
    have rE : (hr.2.1 (.inl 105) 24 + 1).toInt = ((D + 1 : Nat) : Int) := (i_add h3 k_1 (by omega) (by omega)).trans (by omega)
    have kU : (hc.2.1 (.inl 84) 1 - 1).toInt = (U : Int) := (i_sub h2 k_1 (by omega) (by omega)).trans (by omega)
    have rU : (hr.2.1 (.inl 105) 25 - 1).toInt = (U : Int) := (i_sub h4 k_1 (by omega) (by omega)).trans (by omega)
    have go : ∀ gc gr : mx_H, rs_A gc gr S N → rq_c hc gc → rq_r hr gr → (∀ t k, t < S → V (D + 1) t k = rD gc (.inr (t, 7)) k) → (k_20 gc).2.1 (.inl 84) 1 = (r_05 gr).2.1 (.inl 105) 25 ∧ rs_A (k_20 gc) (r_05 gr) S N ∧ ∃ V' D' U', rh_H (k_20 gc) (r_05 gr) S V' D' U' := fun gc gr B fc fr vv => by
      have c0 : gc.2.1 (.inl 84) 0 = hc.2.1 (.inl 84) 0 := fc.2.2.1 84 0
      have c1 : gc.2.1 (.inl 84) 1 = hc.2.1 (.inl 84) 1 := fc.2.2.1 84 1
      have d0 : gr.2.1 (.inl 105) 24 = hr.2.1 (.inl 105) 24 := fr.2.2.2 105 24 (by omega)
      have d1 : gr.2.1 (.inl 105) 25 = hr.2.1 (.inl 105) 25 := fr.2.2.2 105 25 (by omega)
      have B' : rs_A (k_20 gc) (r_05 gr) S N := B.c84.r24
      refine ⟨?_, B', V, D + 1, U, ?_, ?_, ?_, ?_, by omega, fun t k ht => (vv t k ht), fun j hj => rh_e.same (hc := hc) (hr := hr) (fun i => ?_) (fun q i l1 l2 => ?_) (fun q i l1 l2 => ?_) (fun t ht => ⟨?_, fun k => ⟨?_, ?_⟩⟩) (h7 j (by omega))⟩
      · show gc.2.1 (.inl 84) 1 - 1 = gr.2.1 (.inl 105) 25 - 1
        rw [c1, d1]
        exact i_eq kU rU rfl
      · show (gc.2.1 (.inl 84) 0 + 1).toInt = _
        rw [c0]
        exact kE
      · show (gc.2.1 (.inl 84) 1 - 1).toInt = _
        rw [c1]
        exact kU
      · show (gr.2.1 (.inl 105) 24 + 1).toInt = _
        rw [d0]
        exact rE
      · show (gr.2.1 (.inl 105) 25 - 1).toInt = _
        rw [d1]
        exact rU
      · show gc.2.2.2 (.inl 85) i = _
        rw [show gc.2.2.2 = hc.2.2.2 from congrArg Prod.snd fc.2.1]
      · unfold k_20
        rw [rN (by omega), rN (by omega)]
        exact fc.2.2.1 q i
      · unfold r_05
        rw [rN (by omega), rN (by omega)]
        exact fr.2.2.2 q i (by omega)
      · exact fc.2.2.2 t 0 6 (by omega)
      · exact fc.2.2.2 t 5 k (by omega)
      · exact fc.2.2.2 t 6 k (by omega)
    rcases ee with ⟨R, vv⟩ | ⟨k, u, v, X, Y, cb, ca, q1, q2, q3, q4, q5, q6, q7, q8, q9, q10, q11, q12, q13, q14⟩
    · obtain ⟨B, fc, fr, v7⟩ := rq_ac (kc := hc) (kr := hr) (w := hc.2.1 (.inl 89) D) (x := hr.2.1 (.inl 126) D) (y := f174 (hr.2.1 (.inl 127) D) (hr.2.1 (.inl 126) D)) A hs R (Or.inr ⟨rfl, rfl⟩)
      refine go _ _ B fc fr (fun t k ht => ?_)
      rw [vv t k ht, h6 t k ht]
      exact congrArg Int32.toInt (v7 t k).symm
    · obtain ⟨B, fc, fr, v7, v8⟩ := rq_ap (X := Y) (cz := ca) (kc := hc) (kr := hr) (w := hc.2.1 (.inl 89) D) (x := hr.2.1 (.inl 126) D) (y := f174 (hr.2.1 (.inl 127) D) (hr.2.1 (.inl 126) D)) A hs q1 q2 q3 q4 q5 q6 q7 q9 (by omega) (by
        rcases q14 with ⟨c1, c2, c3, c4⟩ | ⟨c1, c2, c3, c4, c5⟩
        · exact Or.inl ⟨c1, c3, (h6 s k hs).symm.trans (q11.trans c4)⟩
        · exact Or.inr ⟨c1, c3, (f174_v c4 c3).trans c5.symm⟩)
      refine go _ _ B fc fr (fun t i ht => ?_)
      by_cases z : t = s ∧ i = k
      · rw [z.1, z.2, q12]
        exact v7.symm
      · rw [q13 t i ht z, h6 t i ht]
        exact congrArg Int32.toInt (v8 t i z).symm
end RHH
