/-! ===== crack and stroke ===== -/
section RGG
variable {h h' g hc hr gc gr : mx_H} {S N s i j n m k c C F u v o D U E : Nat} {a a1 a2 a3 a4 a5 b1 p x y d e w : Int32} {V : Nat → Nat → Nat → Int}
theorem pk_v {X Y : Int} (hx : x.toInt = X) (hy : y.toInt = Y) (b : 0 ≤ X ∧ X ≤ 99 ∧ 0 ≤ Y ∧ Y ≤ 99) : (f65 x y).toInt = 10 * X + Y := by
  rw [f65_eq]
  exact i_add (i_mul k_10 hx (by omega) (by omega)) hy (by omega) (by omega)
theorem pk_d {X Y : Int} (hw : w.toInt = 10 * X + Y) (b : 0 ≤ X ∧ X ≤ 9 ∧ 0 ≤ Y ∧ Y ≤ 9) : (w / 10).toInt = X ∧ (w - w / 10 * 10).toInt = Y := by
  have e := i_div (x := w) (y := 10) (p := (10 * X + Y).toNat) (q := 10) (by omega) rfl
  have e1 : (w / 10).toInt = X := by
    rw [e]
    omega
  refine ⟨e1, ?_⟩
  rw [i_sub hw (i_mul e1 k_10 (by omega) (by omega)) (by omega) (by omega)]
  omega
theorem C67p (ha : a2.toInt = (k : Int)) : f67 s 4 a2 w h = mx_uI (mx_uI h (.inr (s, 7)) k (w / 10)) (.inr (s, 8)) k (w - w / 10 * 10) := by
  rw [f67_eq, if_neg (by decide), if_neg (by decide), if_neg (by decide), if_neg (by decide), g67_72_eq, i_cl ha]
theorem C66p (ha : a2.toInt = (k : Int)) : f66 s 4 a2 h = f65 (h.2.1 (.inr (s, 7)) k) (h.2.1 (.inr (s, 8)) k) := by
  rw [f66_eq, if_neg (by decide), if_neg (by decide), if_neg (by decide), if_neg (by decide), g66_60_eq, i_cl ha]
theorem C170p (ha : a2.toInt = (k : Int)) : f170 s 4 a2 x h = if f65 (h.2.1 (.inr (s, 7)) k) (h.2.1 (.inr (s, 8)) k) = x then (f65 (h.2.1 (.inr (s, 7)) k) (h.2.1 (.inr (s, 8)) k), h) else (f65 (h.2.1 (.inr (s, 7)) k) (h.2.1 (.inr (s, 8)) k), f17 s 4 a2 (f65 (h.2.1 (.inr (s, 7)) k) (h.2.1 (.inr (s, 8)) k)) x (mx_uI (mx_uI h (.inr (s, 7)) k (x / 10)) (.inr (s, 8)) k (x - x / 10 * 10))) := by
  rw [f170_eq, C66p ha, C67p ha]
  rfl
theorem R200p : f200 3 p x a5 h = f199 p (h.2.1 (.inl 111) (Int32.toNatClampNeg p)) x h := by
  rw [f200_eq, if_neg (by decide), if_neg (by decide), if_neg (by decide), if_pos rfl, g200_75_eq]
  rfl
theorem R200q : f200 4 p x y h = f199 p x y h := by
  rw [f200_eq, if_neg (by decide), if_neg (by decide), if_neg (by decide), if_neg (by decide), if_pos rfl, g200_90_eq]
  rfl
/-- what the bounds of stiff and crack say -/
def rb_9 (hr : mx_H) : Prop := ∀ i, (0 ≤ rD hr (.inl 111) i ∧ rD hr (.inl 111) i ≤ 9) ∧ 0 ≤ rD hr (.inl 112) i ∧ rD hr (.inl 112) i ≤ 9
set_option maxHeartbeats 8000000 in
theorem rs_crack (A : rs_A hc hr S N) (H : rh_H hc hr S V D U) (h9 : rb_9 hr) : (f107 a1 a2 a3 a4 hc).1 = (f202 a1 a2 a3 a4 hr).1 ∧ rs_A (f107 a1 a2 a3 a4 hc).2 (f202 a1 a2 a3 a4 hr).2 S N ∧ ∃ V' D' U', rh_H (f107 a1 a2 a3 a4 hc).2 (f202 a1 a2 a3 a4 hr).2 S V' D' U' := by
  obtain ⟨A1, A2, A3, A4, A5, A6, A7, A8, A9, A10⟩ := id A
  have fin : ∀ {x y : Int32}, f107 a1 a2 a3 a4 hc = (x, hc) → f202 a1 a2 a3 a4 hr = (y, hr) → x = y → (f107 a1 a2 a3 a4 hc).1 = (f202 a1 a2 a3 a4 hr).1 ∧ rs_A (f107 a1 a2 a3 a4 hc).2 (f202 a1 a2 a3 a4 hr).2 S N ∧ ∃ V' D' U', rh_H (f107 a1 a2 a3 a4 hc).2 (f202 a1 a2 a3 a4 hr).2 S V' D' U' := fun q1 q2 q3 => by
    rw [q1, q2]
    exact ⟨q3, A, V, D, U, H⟩
  have K := f107_eq a1 a2 a3 a4 hc
  have T := f202_eq a1 a2 a3 a4 hr
  rcases C166 (a := a1) A with ⟨s, lt, h1, e1, e1'⟩ | ⟨e1, e1'⟩
  · obtain ⟨C, n, F, Ds⟩ := (A9 s lt).2
    have C6 := Ds.2.1
    have n15 : n ≤ 15 := by
      rw [Ds.2.2.2.2.2.2.2.2.2.2.2.1]
      exact sd_C_15 _
    rw [if_neg (by rw [e1']; exact n10)] at T
    rcases C164 (x := a2) h1 Ds.2.2.2.1 Ds.2.2.2.2.1 Ds.2.1 with ⟨u, hu, hx, g1, g1'⟩ | ⟨g1, g1'⟩
    · rcases C164 (x := a3) h1 Ds.2.2.2.1 Ds.2.2.2.2.1 Ds.2.1 with ⟨v, hv, hy, g2, g2'⟩ | ⟨g2, g2'⟩
      · rw [if_neg (by rw [g1']; exact n10), if_pos (by rw [g2']; exact n10)] at T
        have K' : f107 a1 a2 a3 a4 hc = if f157 a4 0 9 ≠ 0 then (if 0 ≤ f61 s a2 a3 hc then (if a4 ≤ hc.2.1 (.inr (s, 7)) (Int32.toNatClampNeg (f61 s a2 a3 hc)) then ((f170 s 4 (f61 s a2 a3 hc) (f65 (hc.2.1 (.inr (s, 7)) (Int32.toNatClampNeg (f61 s a2 a3 hc))) a4) hc).1 - (f170 s 4 (f61 s a2 a3 hc) (f65 (hc.2.1 (.inr (s, 7)) (Int32.toNatClampNeg (f61 s a2 a3 hc))) a4) hc).1 / 10 * 10, (f170 s 4 (f61 s a2 a3 hc) (f65 (hc.2.1 (.inr (s, 7)) (Int32.toNatClampNeg (f61 s a2 a3 hc))) a4) hc).2) else (-1, hc)) else (-2, hc)) else (-1, hc) := by
          rw [K, e1]
          show (if f164 s a2 hc = 0 then _ else if f164 s a3 hc = 0 then _ else _) = _
          rw [if_neg (by rw [g1]; exact n10), if_neg (by rw [g2]; exact n10)]
          rfl
        clear K
        have K := K'
        clear K'
        rw [w_ws] at K
        rcases rs_pb (a := a1) Ds n15 A2 (by omega) h1 hx hy hu hv with ⟨k, hk, ne, ek, Q, f1, W⟩ | ⟨ek, un⟩
        · have nxy : ¬ a2 = a3 := i_ne hx hy (by omega)
          obtain ⟨q1, q2, q3, q4, q5, q6, q7, q8, q9⟩ := rs_k.b Q
          obtain ⟨⟨s1, s2⟩, c1, c2⟩ := h9 (36 * s + 6 * u + v)
          have hX : rD hc (.inr (s, 7)) k = rD hr (.inl 111) (36 * s + 6 * u + v) := congrArg Int32.toInt q8.symm
          have hC : rD hc (.inr (s, 8)) k = rD hr (.inl 112) (36 * s + 6 * u + v) := congrArg Int32.toInt q9.symm
          rw [if_pos (show 0 ≤ f61 s a2 a3 hc from i_le k_0 ek (by omega)), i_cl ek] at K
          rw [if_neg nxy, if_pos (by rw [f1]; exact n10)] at T
          have T2 : f202 a1 a2 a3 a4 hr = if f173 a4 0 (hr.2.1 (.inl 111) (36 * s + 6 * u + v)) ≠ 0 then (if hr.2.1 (.inl 112) (36 * s + 6 * u + v) ≠ a4 then (hr.2.1 (.inl 112) (36 * s + 6 * u + v), f200 3 (f179 a1 a2 a3) a4 0 (f198 3 (f179 a1 a2 a3) (hr.2.1 (.inl 112) (36 * s + 6 * u + v)) a4 0 hr)) else (hr.2.1 (.inl 112) (36 * s + 6 * u + v), hr)) else (-1, hr) := by
            rw [T]
            show (if f173 a4 0 (hr.2.1 (.inl 111) (Int32.toNatClampNeg (f179 a1 a2 a3))) ≠ 0 then (if hr.2.1 (.inl 112) (Int32.toNatClampNeg (f179 a1 a2 a3)) ≠ a4 then (hr.2.1 (.inl 112) (Int32.toNatClampNeg (f179 a1 a2 a3)), f200 3 (f179 a1 a2 a3) a4 0 (f198 3 (f179 a1 a2 a3) (hr.2.1 (.inl 112) (Int32.toNatClampNeg (f179 a1 a2 a3))) a4 0 hr)) else (hr.2.1 (.inl 112) (Int32.toNatClampNeg (f179 a1 a2 a3)), hr)) else (-1, hr)) = _
            rw [i_cl W]
          by_cases q : 0 ≤ a4.toInt ∧ a4.toInt ≤ rD hr (.inl 111) (36 * s + 6 * u + v)
          · rw [if_pos (by rw [w173_1 rfl k_0 k_9 (show 0 ≤ a4.toInt ∧ a4.toInt ≤ 9 by omega)]; exact n10), if_pos (i_le rfl hX (by omega))] at K
            rw [if_pos (by rw [w173_1 rfl k_0 rfl q]; exact n10)] at T2
            have pv := pk_v (x := hc.2.1 (.inr (s, 7)) k) (y := hc.2.1 (.inr (s, 8)) k) hX hC (by omega)
            have pw := pk_v (x := hc.2.1 (.inr (s, 7)) k) (y := a4) hX rfl (by omega)
            obtain ⟨pd, pe⟩ := pk_d pw (by omega)
            have ed : f65 (hc.2.1 (.inr (s, 7)) k) a4 / 10 = hc.2.1 (.inr (s, 7)) k := i_eq pd hX rfl
            have ee : f65 (hc.2.1 (.inr (s, 7)) k) a4 - f65 (hc.2.1 (.inr (s, 7)) k) a4 / 10 * 10 = a4 := i_eq pe rfl rfl
            have em : f65 (hc.2.1 (.inr (s, 7)) k) (hc.2.1 (.inr (s, 8)) k) - f65 (hc.2.1 (.inr (s, 7)) k) (hc.2.1 (.inr (s, 8)) k) / 10 * 10 = hr.2.1 (.inl 112) (36 * s + 6 * u + v) := i_eq (pk_d pv (by omega)).2 rfl rfl
            have L := C170p (s := s) (h := hc) (x := f65 (hc.2.1 (.inr (s, 7)) k) a4) ek
            rw [ee, ed] at L
            by_cases c : hr.2.1 (.inl 112) (36 * s + 6 * u + v) = a4
            · rw [if_pos (i_eq pv pw (by
                have := congrArg Int32.toInt c
                unfold rD
                omega))] at L
              rw [L] at K
              rw [if_neg (fun z => z c)] at T2
              exact fin K T2 em
            · rw [if_neg (i_ne pv pw (fun z => c (i_eq rfl rfl (by unfold rD at z; omega))))] at L
              rw [L] at K
              rw [if_pos c] at T2
              have fr := R198f (a1 := 3) (a2 := f179 a1 a2 a3) (a3 := hr.2.1 (.inl 112) (36 * s + 6 * u + v)) (a4 := a4) (a5 := 0) H.2.2.1 (by have := H.2.2.2.2.1; omega)
              have r3 : ∀ i, (f198 3 (f179 a1 a2 a3) (hr.2.1 (.inl 112) (36 * s + 6 * u + v)) a4 0 hr).2.1 (.inl 113) i = hr.2.1 (.inl 113) i := fun i => fr.2.2.2 113 i (by omega) (by omega)
              have Wp := R199 (hr := f198 3 (f179 a1 a2 a3) (hr.2.1 (.inl 112) (36 * s + 6 * u + v)) a4 0 hr) (d := hc.2.1 (.inr (s, 7)) k) (e := a4) (b := F + k) W (by omega) (by omega) ne (by omega) (by unfold rD; rw [r3]; exact q6) (by unfold rD; rw [r3]; exact q7) (by have := Ds.2.2.1; omega)
              rw [K, T2, R200p, i_cl W, fr.2.2.2 111 _ (by omega) (by omega), q8]
              exact ⟨em, rq_piece (X := rD hr (.inl 111) (36 * s + 6 * u + v)) (Y := rD hr (.inl 111) (36 * s + 6 * u + v)) (cb := rD hr (.inl 112) (36 * s + 6 * u + v)) (ca := a4.toInt) A H lt Ds hk Q ek W pv pw (by have := rs_k.le Q; omega) rfl hX hX (Or.inl ⟨rfl, rfl, rfl, rfl⟩) Wp⟩
          · rw [if_neg (by rw [w173_0 rfl k_0 rfl q]; exact fun z => z rfl)] at T2
            by_cases q9 : 0 ≤ a4.toInt ∧ a4.toInt ≤ 9
            · rw [if_pos (by rw [w173_1 rfl k_0 k_9 q9]; exact n10), if_neg (i_nle rfl hX (by omega))] at K
              exact fin K T2 rfl
            · rw [if_neg (by rw [w173_0 rfl k_0 k_9 q9]; exact fun z => z rfl)] at K
              exact fin K T2 rfl
        · rw [ek, if_neg (show ¬ (0 : Int32) ≤ -1 by decide)] at K
          have T2 : f202 a1 a2 a3 a4 hr = if f173 a4 0 9 = 0 then (-1, hr) else (-2, hr) := by
            rcases un with un | ⟨un, z⟩
            · rw [T, if_pos (i_eq hx hy (by omega))]
            · rw [T, if_neg (i_ne hx hy (by omega)), if_neg (by rw [z]; exact fun t => t rfl)]
          by_cases z : f173 a4 0 9 = 0
          · rw [if_neg (fun t => t z)] at K
            rw [if_pos z] at T2
            exact fin K T2 rfl
          · rw [if_pos z] at K
            rw [if_neg z] at T2
            exact fin K T2 rfl
      · rw [if_neg (by rw [g1']; exact n10), if_neg (by rw [g2']; exact fun z => z rfl)] at T
        refine fin (x := -1) ?_ T rfl
        rw [K, e1]
        show (if f164 s a2 hc = 0 then _ else if f164 s a3 hc = 0 then _ else _) = _
        rw [if_neg (by rw [g1]; exact n10), if_pos g2]
    · rw [if_pos g1'] at T
      refine fin (x := -1) ?_ T rfl
      rw [K, e1]
      show (if f164 s a2 hc = 0 then _ else _) = _
      rw [if_pos g1]
  · rw [if_pos e1'] at T
    refine fin (x := -1) ?_ T rfl
    rw [K, e1]
    rfl
/-- a stroke on a corner -/
theorem rq_heavy (A : rs_A hc hr S N) (H : rh_H hc hr S V D U) (lt : s < S) (Ds : rs_D hc hr N s C n F) (hc1 : c < C) (h1 : a1.toInt = (s : Int)) (hx : a2.toInt = (c : Int)) (hv : 1 ≤ rD hr (.inl 107) (6 * s + c)) {rc rr : Int32 × mx_H}
    (K : rc = if 1 < hc.2.1 (.inr (s, 1)) c then ((f170 s 3 a2 (hc.2.1 (.inr (s, 1)) c - 1) hc).2.2.1 (.inr (s, 1)) c, (f170 s 3 a2 (hc.2.1 (.inr (s, 1)) c - 1) hc).2) else (-4, hc))
    (T : rr = if hr.2.1 (.inl 107) (6 * s + c) ≠ 1 then ((f198 5 (6 * a1 + a2) (hr.2.1 (.inl 107) (6 * s + c)) (hr.2.1 (.inl 107) (6 * s + c) - 1) 0 hr).2.1 (.inl 107) (6 * s + c) - 1, mx_uI (f198 5 (6 * a1 + a2) (hr.2.1 (.inl 107) (6 * s + c)) (hr.2.1 (.inl 107) (6 * s + c) - 1) 0 hr) (.inl 107) (6 * s + c) ((f198 5 (6 * a1 + a2) (hr.2.1 (.inl 107) (6 * s + c)) (hr.2.1 (.inl 107) (6 * s + c) - 1) 0 hr).2.1 (.inl 107) (6 * s + c) - 1)) else (-4, hr)) :
    rc.1 = rr.1 ∧ rs_A rc.2 rr.2 S N ∧ ∃ V' D' U', rh_H rc.2 rr.2 S V' D' U' := by
  obtain ⟨A1, A2, A3, A4, A5, A6, A7, A8, A9, A10⟩ := id A
  have C6 := Ds.2.1
  obtain ⟨b1, -, -, -⟩ := Ds.2.2.2.2.2.2.2.1 c hc1
  have hp := w6 h1 hx (show s ≤ 12 by omega) (show c < 6 by omega)
  have hX : rD hc (.inr (s, 1)) c = rD hr (.inl 107) (6 * s + c) := congrArg Int32.toInt b1
  by_cases q : hr.2.1 (.inl 107) (6 * s + c) = 1
  · rw [if_neg (i_nlt k_1 hX (by unfold rD; rw [q, k_1]; omega))] at K
    rw [if_neg (fun z => z q)] at T
    rw [K, T]
    exact ⟨rfl, A, V, D, U, H⟩
  · have q2 : 2 ≤ rD hr (.inl 107) (6 * s + c) := by
      have : rD hr (.inl 107) (6 * s + c) ≠ 1 := fun z => q (i_eq z k_1 rfl)
      omega
    have bb := i_b (hr.2.1 (.inl 107) (6 * s + c))
    rw [if_pos (i_lt k_1 hX (by omega))] at K
    rw [if_pos q] at T
    have fr := R198f (a1 := 5) (a2 := 6 * a1 + a2) (a3 := hr.2.1 (.inl 107) (6 * s + c)) (a4 := hr.2.1 (.inl 107) (6 * s + c) - 1) (a5 := 0) H.2.2.1 (by have := H.2.2.2.2.1; omega)
    rw [fr.2.2.2 107 _ (by omega) (by omega)] at T
    have m1 : (hr.2.1 (.inl 107) (6 * s + c) - 1).toInt = rD hr (.inl 107) (6 * s + c) - 1 := i_sub rfl k_1 (by unfold rD at q2 ⊢; omega) (by unfold rD at q2 ⊢; omega)
    have L := C170c (s := s) (h := hc) (x := hc.2.1 (.inr (s, 1)) c - 1) (b1 := 5) (o := 1) (a1 := 3) (Or.inr (Or.inr (Or.inl ⟨rfl, rfl, rfl⟩))) hx
    rw [b1] at L K
    rw [if_neg (i_ne rfl m1 (by unfold rD; omega))] at L
    rw [L] at K
    have fc := C17f (s := s) (a2 := 3) (a3 := a2) (a4 := hr.2.1 (.inl 107) (6 * s + c)) (a5 := hr.2.1 (.inl 107) (6 * s + c) - 1) (h := mx_uI hc (.inr (s, 1)) c (hr.2.1 (.inl 107) (6 * s + c) - 1)) (D := D) H.1 (by have := H.2.2.2.2.1; omega) H.R
    rw [K, T]
    refine ⟨?_, rq_corner A H lt (by omega) (o := 1) (b1 := 5) (Or.inr (Or.inr (Or.inl ⟨rfl, rfl, rfl⟩))) hx hp b1 (fun t => by omega)⟩
    show (f17 s 3 a2 (hr.2.1 (.inl 107) (6 * s + c)) (hr.2.1 (.inl 107) (6 * s + c) - 1) (mx_uI hc (.inr (s, 1)) c (hr.2.1 (.inl 107) (6 * s + c) - 1))).2.1 (.inr (s, 1)) c = _
    rw [fc.2.2.1 (s, 1) c, rI_s]
set_option maxHeartbeats 8000000 in
/-- a stroke on a piece -/
theorem rq_filed (A : rs_A hc hr S N) (H : rh_H hc hr S V D U) (h9 : rb_9 hr) (lt : s < S) (Ds : rs_D hc hr N s C n F) (hk : k < n) (Q : rs_k hc hr s C F k u v ∨ rs_k hc hr s C F k v u) (ek : a2.toInt = (k : Int)) (W : p.toInt = ((36 * s + 6 * u + v : Nat) : Int)) (hv : 1 ≤ rD hr (.inl 111) (36 * s + 6 * u + v)) {rc rr : Int32 × mx_H}
    (K : rc = if 1 ≤ hc.2.1 (.inr (s, 7)) k - 1 then (hc.2.1 (.inr (s, 7)) k - 1, (f170 s 4 a2 (f65 (hc.2.1 (.inr (s, 7)) k - 1) (if hc.2.1 (.inr (s, 7)) k - 1 < hc.2.1 (.inr (s, 8)) k then hc.2.1 (.inr (s, 7)) k - 1 else hc.2.1 (.inr (s, 8)) k)) hc).2) else (-4, hc))
    (T : rr = if hr.2.1 (.inl 111) (36 * s + 6 * u + v) ≠ 1 then ((f199 p ((f198 4 p (hr.2.1 (.inl 111) (36 * s + 6 * u + v)) (hr.2.1 (.inl 111) (36 * s + 6 * u + v) - 1) (hr.2.1 (.inl 112) (36 * s + 6 * u + v)) hr).2.1 (.inl 111) (36 * s + 6 * u + v) - 1) (f174 ((f198 4 p (hr.2.1 (.inl 111) (36 * s + 6 * u + v)) (hr.2.1 (.inl 111) (36 * s + 6 * u + v) - 1) (hr.2.1 (.inl 112) (36 * s + 6 * u + v)) hr).2.1 (.inl 112) (36 * s + 6 * u + v)) ((f198 4 p (hr.2.1 (.inl 111) (36 * s + 6 * u + v)) (hr.2.1 (.inl 111) (36 * s + 6 * u + v) - 1) (hr.2.1 (.inl 112) (36 * s + 6 * u + v)) hr).2.1 (.inl 111) (36 * s + 6 * u + v) - 1)) (f198 4 p (hr.2.1 (.inl 111) (36 * s + 6 * u + v)) (hr.2.1 (.inl 111) (36 * s + 6 * u + v) - 1) (hr.2.1 (.inl 112) (36 * s + 6 * u + v)) hr)).2.1 (.inl 111) (36 * s + 6 * u + v),
      f199 p ((f198 4 p (hr.2.1 (.inl 111) (36 * s + 6 * u + v)) (hr.2.1 (.inl 111) (36 * s + 6 * u + v) - 1) (hr.2.1 (.inl 112) (36 * s + 6 * u + v)) hr).2.1 (.inl 111) (36 * s + 6 * u + v) - 1) (f174 ((f198 4 p (hr.2.1 (.inl 111) (36 * s + 6 * u + v)) (hr.2.1 (.inl 111) (36 * s + 6 * u + v) - 1) (hr.2.1 (.inl 112) (36 * s + 6 * u + v)) hr).2.1 (.inl 112) (36 * s + 6 * u + v)) ((f198 4 p (hr.2.1 (.inl 111) (36 * s + 6 * u + v)) (hr.2.1 (.inl 111) (36 * s + 6 * u + v) - 1) (hr.2.1 (.inl 112) (36 * s + 6 * u + v)) hr).2.1 (.inl 111) (36 * s + 6 * u + v) - 1)) (f198 4 p (hr.2.1 (.inl 111) (36 * s + 6 * u + v)) (hr.2.1 (.inl 111) (36 * s + 6 * u + v) - 1) (hr.2.1 (.inl 112) (36 * s + 6 * u + v)) hr)) else (-4, hr)) :
    rc.1 = rr.1 ∧ rs_A rc.2 rr.2 S N ∧ ∃ V' D' U', rh_H rc.2 rr.2 S V' D' U' := by
  obtain ⟨A1, A2, A3, A4, A5, A6, A7, A8, A9, A10⟩ := id A
  obtain ⟨q1, q2, q3, q4, q5, q6, q7, q8, q9⟩ := rs_k.b Q
  have C6 := Ds.2.1
  obtain ⟨⟨s1, s2⟩, c1, c2⟩ := h9 (36 * s + 6 * u + v)
  generalize hst : hr.2.1 (.inl 111) (36 * s + 6 * u + v) = st at T q8
  generalize hcr : hr.2.1 (.inl 112) (36 * s + 6 * u + v) = cr at T q9
  unfold rD at s1 s2 c1 c2 hv
  rw [hst] at s1 s2 hv
  rw [hcr] at c1 c2
  rw [← q8, ← q9] at K
  have m1 : (st - 1).toInt = st.toInt - 1 := i_sub rfl k_1 (by omega) (by omega)
  by_cases q : st = 1
  · rw [if_neg (i_nle k_1 m1 (by rw [q, k_1]; omega))] at K
    rw [if_neg (fun z => z q)] at T
    rw [K, T]
    exact ⟨rfl, A, V, D, U, H⟩
  · have g2 : 2 ≤ st.toInt := by
      have : st.toInt ≠ 1 := fun z => q (i_eq z k_1 rfl)
      omega
    rw [if_pos (i_le k_1 m1 (by omega))] at K
    rw [if_pos q] at T
    have fr := R198f (a1 := 4) (a2 := p) (a3 := st) (a4 := st - 1) (a5 := cr) H.2.2.1 (by have := H.2.2.2.2.1; omega)
    rw [fr.2.2.2 111 _ (by omega) (by omega), fr.2.2.2 112 _ (by omega) (by omega), hst, hcr] at T
    have mm : (if st - 1 < cr then st - 1 else cr) = f174 cr (st - 1) := by
      rw [f174_eq]
      by_cases z : st - 1 < cr
      · have z' := Int32.lt_iff_toInt_lt.mp z
        rw [if_pos z, if_pos (i_le m1 rfl (by omega))]
      · have z' : cr.toInt ≤ (st - 1).toInt := Int.not_lt.mp (fun t => z (Int32.lt_iff_toInt_lt.mpr t))
        rw [if_neg z]
        by_cases y : st - 1 ≤ cr
        · have y' := Int32.le_iff_toInt_le.mp y
          rw [if_pos y]
          exact i_eq rfl m1 (by omega)
        · rw [if_neg y]
    have mv : (f174 cr (st - 1)).toInt = min cr.toInt (st.toInt - 1) := by
      rw [f174_eq]
      by_cases y : st - 1 ≤ cr
      · have y' := Int32.le_iff_toInt_le.mp y
        rw [if_pos y]
        omega
      · have y' : cr.toInt < (st - 1).toInt := Int.not_le.mp (fun t => y (Int32.le_iff_toInt_le.mpr t))
        rw [if_neg y]
        omega
    rw [mm] at K
    generalize hmn : f174 cr (st - 1) = mn at K T mv
    have pv := pk_v (x := st) (y := cr) rfl rfl (by omega)
    have pw := pk_v (x := st - 1) (y := mn) m1 mv (by omega)
    obtain ⟨pd, pe⟩ := pk_d pw (by omega)
    have ed : f65 (st - 1) mn / 10 = st - 1 := i_eq pd m1 rfl
    have ee : f65 (st - 1) mn - f65 (st - 1) mn / 10 * 10 = mn := i_eq pe mv rfl
    have L := C170p (s := s) (h := hc) (x := f65 (st - 1) mn) ek
    rw [← q8, ← q9, ee, ed, if_neg (i_ne pv pw (by omega))] at L
    rw [L] at K
    have r3 : ∀ i, (f198 4 p st (st - 1) cr hr).2.1 (.inl 113) i = hr.2.1 (.inl 113) i := fun i => fr.2.2.2 113 i (by omega) (by omega)
    have Wp := R199 (hr := f198 4 p st (st - 1) cr hr) (d := st - 1) (e := mn) (b := F + k) W (by omega) (by omega) q3 (by omega) (by unfold rD; rw [r3]; exact q6) (by unfold rD; rw [r3]; exact q7) (by have := Ds.2.2.1; omega)
    rw [K, T]
    refine ⟨?_, rq_piece (X := st.toInt) (Y := st.toInt - 1) (cb := cr.toInt) (ca := min cr.toInt (st.toInt - 1)) A H lt Ds hk Q ek W pv pw (by
      have le := rs_k.le Q
      unfold rD at le
      rw [← q8, ← q9] at le
      omega) mv (by unfold rD; rw [← q8]) m1 (Or.inr ⟨rfl, rfl, m1, rfl, rfl⟩) Wp⟩
    show st - 1 = _
    rw [Wp.2.2.2.1, if_neg (by omega), if_pos rfl]
set_option maxHeartbeats 8000000 in
theorem rs_stroke (A : rs_A hc hr S N) (H : rh_H hc hr S V D U) (h9 : rb_9 hr) (k2 : ∀ s c : Nat, s < S → (c : Int) < rD hr (.inl 106) s → 1 ≤ rD hr (.inl 107) (6 * s + c)) (k3 : ∀ p : Nat, p < 36 * S → 0 < rD hr (.inl 113) p → 1 ≤ rD hr (.inl 111) p) : (f108 a1 a2 a3 hc).1 = (f203 a1 a2 a3 hr).1 ∧ rs_A (f108 a1 a2 a3 hc).2 (f203 a1 a2 a3 hr).2 S N ∧ ∃ V' D' U', rh_H (f108 a1 a2 a3 hc).2 (f203 a1 a2 a3 hr).2 S V' D' U' := by
  obtain ⟨A1, A2, A3, A4, A5, A6, A7, A8, A9, A10⟩ := id A
  have b31 : g203_31 hr = (-1, hr) := g203_31_eq hr
  have b118 : g203_118 hr = (-2, hr) := g203_118_eq hr
  have fin : ∀ {x : Int32}, f108 a1 a2 a3 hc = (x, hc) → f203 a1 a2 a3 hr = (x, hr) → (f108 a1 a2 a3 hc).1 = (f203 a1 a2 a3 hr).1 ∧ rs_A (f108 a1 a2 a3 hc).2 (f203 a1 a2 a3 hr).2 S N ∧ ∃ V' D' U', rh_H (f108 a1 a2 a3 hc).2 (f203 a1 a2 a3 hr).2 S V' D' U' := fun q1 q2 => by
    rw [q1, q2]
    exact ⟨rfl, A, V, D, U, H⟩
  have K := f108_eq a1 a2 a3 hc
  have T := f203_eq a1 a2 a3 hr
  rcases C166 (a := a1) A with ⟨s, lt, h1, e1, e1'⟩ | ⟨e1, e1'⟩
  · obtain ⟨C, n, F, Ds⟩ := (A9 s lt).2
    have C6 := Ds.2.1
    have n15 : n ≤ 15 := by
      rw [Ds.2.2.2.2.2.2.2.2.2.2.2.1]
      exact sd_C_15 _
    rw [if_neg (by rw [e1']; exact n10)] at T
    rcases C164 (x := a2) h1 Ds.2.2.2.1 Ds.2.2.2.2.1 Ds.2.1 with ⟨u, hu, hx, g1, g1'⟩ | ⟨g1, g1'⟩
    · rw [if_neg (by rw [g1']; exact n10)] at T
      have hp := w6 h1 hx (show s ≤ 12 by omega) (show u < 6 by omega)
      by_cases m : a3 = -1
      · rw [if_pos m, g203_33_eq, if_neg (fun z => z m), i_cl hp] at T
        refine rq_heavy A H lt Ds hu h1 hx (k2 s u lt (by have := Ds.2.2.2.2.1; unfold rD at this ⊢; omega)) ?_ (T.trans ?_)
        · rw [K, e1]
          show (if f164 s a2 hc = 0 then _ else if a3 = -1 then (if a3 ≠ -1 then _ else if 1 < hc.2.1 (.inr (s, 1)) (Int32.toNatClampNeg a2) then ((f170 s 3 a2 (hc.2.1 (.inr (s, 1)) (Int32.toNatClampNeg a2) - 1) hc).2.2.1 (.inr (s, 1)) (Int32.toNatClampNeg a2), (f170 s 3 a2 (hc.2.1 (.inr (s, 1)) (Int32.toNatClampNeg a2) - 1) hc).2) else (-4, hc)) else _) = _
          rw [if_neg (by rw [g1]; exact n10), if_pos m, if_neg (fun z => z m), i_cl hx]
        · by_cases q : hr.2.1 (.inl 107) (6 * s + u) ≠ 1
          · rw [if_pos q, if_pos q]
            simp only [x_h]
            rw [rI_s]
          · rw [if_neg q, if_neg q]
      · rw [if_neg m] at T
        rcases C164 (x := a3) h1 Ds.2.2.2.1 Ds.2.2.2.2.1 Ds.2.1 with ⟨v, hv, hy, g2, g2'⟩ | ⟨g2, g2'⟩
        · rw [if_pos (by rw [g2']; exact n10), g203_33_eq, if_pos m] at T
          have K' : f108 a1 a2 a3 hc = if 0 ≤ f61 s a2 a3 hc then (if 1 ≤ hc.2.1 (.inr (s, 7)) (Int32.toNatClampNeg (f61 s a2 a3 hc)) - 1 then (hc.2.1 (.inr (s, 7)) (Int32.toNatClampNeg (f61 s a2 a3 hc)) - 1, (f170 s 4 (f61 s a2 a3 hc) (f65 (hc.2.1 (.inr (s, 7)) (Int32.toNatClampNeg (f61 s a2 a3 hc)) - 1) (if hc.2.1 (.inr (s, 7)) (Int32.toNatClampNeg (f61 s a2 a3 hc)) - 1 < hc.2.1 (.inr (s, 8)) (Int32.toNatClampNeg (f61 s a2 a3 hc)) then hc.2.1 (.inr (s, 7)) (Int32.toNatClampNeg (f61 s a2 a3 hc)) - 1 else hc.2.1 (.inr (s, 8)) (Int32.toNatClampNeg (f61 s a2 a3 hc)))) hc).2) else (-4, hc)) else (-2, hc) := by
            rw [K, e1]
            show (if f164 s a2 hc = 0 then _ else if a3 = -1 then _ else if f164 s a3 hc ≠ 0 then (if a3 ≠ -1 then _ else _) else _) = _
            rw [if_neg (by rw [g1]; exact n10), if_neg m, if_pos (by rw [g2]; exact n10), if_pos m]
            rfl
          clear K
          rcases rs_pb (a := a1) Ds n15 A2 (by omega) h1 hx hy hu hv with ⟨k, hk, ne, ek, Q, f1, W⟩ | ⟨ek, un⟩
          · obtain ⟨q1, q2, q3, q4, q5, q6, q7, q8, q9⟩ := rs_k.b Q
            rw [if_pos (show 0 ≤ f61 s a2 a3 hc from i_le k_0 ek (by omega)), i_cl ek] at K'
            rw [if_neg (i_ne hx hy (by omega)), if_pos (by rw [f1]; exact n10)] at T
            refine rq_filed (p := f179 a1 a2 a3) A H h9 lt Ds hk Q ek W (k3 _ (by omega) (by rw [q6]; omega)) K' (T.trans ?_)
            show (if hr.2.1 (.inl 111) (Int32.toNatClampNeg (f179 a1 a2 a3)) ≠ 1 then _ else _) = _
            rw [i_cl W]
            rfl
          · rw [ek, if_neg (show ¬ (0 : Int32) ≤ -1 by decide)] at K'
            refine fin K' ?_
            rcases un with un | ⟨un, z⟩
            · rw [T, if_pos (i_eq hx hy (by omega)), b118]
            · rw [T, if_neg (i_ne hx hy (by omega)), if_neg (by rw [z]; exact fun t => t rfl), b118]
        · rw [if_neg (by rw [g2']; exact fun z => z rfl), b31] at T
          refine fin ?_ T
          rw [K, e1]
          show (if f164 s a2 hc = 0 then _ else if a3 = -1 then _ else if f164 s a3 hc ≠ 0 then _ else _) = _
          rw [if_neg (by rw [g1]; exact n10), if_neg m, if_neg (by rw [g2]; exact fun z => z rfl)]
    · rw [if_pos g1', b31] at T
      refine fin ?_ T
      rw [K, e1]
      show (if f164 s a2 hc = 0 then _ else _) = _
      rw [if_pos g1]
  · rw [if_pos e1', b31] at T
    refine fin ?_ T
    rw [K, e1]
    rfl
end RGG
