/-! ===== crack and stroke ===== -/
section RGG
variable {h h' g hc hr gc gr : mx_H} {S N s i j n m k c C F u v o D U E : Nat} {a a1 a2 a3 a4 a5 b1 p x y d e w : Int32} {V : Nat → Nat → Nat → Int}
theorem pk_v {X Y : Int} (hx : x.toInt = X) (hy : y.toInt = Y) (b : 0 ≤ X ∧ X ≤ 99 ∧ 0 ≤ Y ∧ Y ≤ 99) : (f65 x y).toInt = 10 * X + Y := by
  rw [f65_eq]
  exact i_add (i_mul k_10 hx (by omega) (by omega)) hy (by omega) (by omega)
theorem pk_d {X Y : Int} (hw : w.toInt = 10 * X + Y) (b : 0 ≤ X ∧ X ≤ 9 ∧ 0 ≤ Y ∧ Y ≤ 9) : (w / 10).toInt = X ∧ (w - w / 10 * 10).toInt = Y := by
  have e := i_div (x := w) (y := 10) (p := (10 * X + Y).toNat) (q := 10) (by omega) rfl
  have e1 : (w / 10).toInt = X := by
    rw [e]
    omega
  refine ⟨e1, ?_⟩
  rw [i_sub hw (i_mul e1 k_10 (by omega) (by omega)) (by omega) (by omega)]
  omega
theorem C67p (ha : a2.toInt = (k : Int)) : f67 s 4 a2 w h = mx_uI (mx_uI h (.inr (s, 7)) k (w / 10)) (.inr (s, 8)) k (w - w / 10 * 10) := by
  rw [f67_eq, if_neg (by decide +kernel), if_neg (by decide +kernel), if_neg (by decide +kernel), if_neg (by decide +kernel), g67_72_eq, i_cl ha]
theorem C66p (ha : a2.toInt = (k : Int)) : f66 s 4 a2 h = f65 (h.2.1 (.inr (s, 7)) k) (h.2.1 (.inr (s, 8)) k) := by
  rw [f66_eq, if_neg (by decide +kernel), if_neg (by decide +kernel), if_neg (by decide +kernel), if_neg (by decide +kernel), g66_60_eq, i_cl ha]
theorem C170p (ha : a2.toInt = (k : Int)) : f170 s 4 a2 x h = if f65 (h.2.1 (.inr (s, 7)) k) (h.2.1 (.inr (s, 8)) k) = x then (f65 (h.2.1 (.inr (s, 7)) k) (h.2.1 (.inr (s, 8)) k), h) else (f65 (h.2.1 (.inr (s, 7)) k) (h.2.1 (.inr (s, 8)) k), f17 s 4 a2 (f65 (h.2.1 (.inr (s, 7)) k) (h.2.1 (.inr (s, 8)) k)) x (mx_uI (mx_uI h (.inr (s, 7)) k (x / 10)) (.inr (s, 8)) k (x - x / 10 * 10))) := by
  rw [f170_eq, C66p ha, C67p ha]
  rfl
theorem R200p : f200 3 p x a5 h = f199 p (h.2.1 (.inl 111) (Int32.toNatClampNeg p)) x h := by
  rw [f200_eq, if_neg (by decide +kernel), if_neg (by decide +kernel), if_neg (by decide +kernel), if_pos rfl, g200_75_eq]
  rfl
theorem R200q : f200 4 p x y h = f199 p x y h := by
  rw [f200_eq, if_neg (by decide +kernel), if_neg (by decide +kernel), if_neg (by decide +kernel), if_neg (by decide +kernel), if_pos rfl, g200_90_eq]
  rfl
/-- what the bounds of stiff and crack say -/
def rb_9 (hr : mx_H) : Prop := ∀ i, (0 ≤ rD hr (.inl 111) i ∧ rD hr (.inl 111) i ≤ 9) ∧ 0 ≤ rD hr (.inl 112) i ∧ rD hr (.inl 112) i ≤ 9
set_option maxHeartbeats 8000000 in
theorem rs_crack (A : rs_A hc hr S N) (H : rh_H hc hr S V D U) (h9 : rb_9 hr) : (f107 a1 a2 a3 a4 hc).1 = (f202 a1 a2 a3 a4 hr).1 ∧ rs_A (f107 a1 a2 a3 a4 hc).2 (f202 a1 a2 a3 a4 hr).2 S N ∧ ∃ V' D' U', rh_H (f107 a1 a2 a3 a4 hc).2 (f202 a1 a2 a3 a4 hr).2 S V' D' U' := by
  obtain ⟨A1, A2, A3, A4, A5, A6, A7, A8, A9, A10⟩ := id A
  have fin : ∀ {x y : Int32}, f107 a1 a2 a3 a4 hc = (x, hc) → f202 a1 a2 a3 a4 hr = (y, hr) → x = y → (f107 a1 a2 a3 a4 hc).1 = (f202 a1 a2 a3 a4 hr).1 ∧ rs_A (f107 a1 a2 a3 a4 hc).2 (f202 a1 a2 a3 a4 hr).2 S N ∧ ∃ V' D' U', rh_H (f107 a1 a2 a3 a4 hc).2 (f202 a1 a2 a3 a4 hr).2 S V' D' U' := fun q1 q2 q3 => by
    rw [q1, q2]
    exact ⟨q3, A, V, D, U, H⟩
  have K := f107_eq a1 a2 a3 a4 hc
  have T := f202_eq a1 a2 a3 a4 hr
  rcases C166 (a := a1) A with ⟨s, lt, h1, e1, e1'⟩ | ⟨e1, e1'⟩
  · obtain ⟨C, n, F, Ds⟩ := (A9 s lt).2
    have C6 := Ds.2.1
    have n15 : n ≤ 15 := by
      rw [Ds.2.2.2.2.2.2.2.2.2.2.2.1]
      exact sd_C_15 _
    rw [if_neg (by rw [e1']; exact n10)] at T
    rcases C164 (x := a2) h1 Ds.2.2.2.1 Ds.2.2.2.2.1 Ds.2.1 with ⟨u, hu, hx, g1, g1'⟩ | ⟨g1, g1'⟩
    · rcases C164 (x := a3) h1 Ds.2.2.2.1 Ds.2.2.2.2.1 Ds.2.1 with ⟨v, hv, hy, g2, g2'⟩ | ⟨g2, g2'⟩
      · rw [if_neg (by rw [g1']; exact n10), if_pos (by rw [g2']; exact n10)] at T
        have K' : f107 a1 a2 a3 a4 hc = if f157 a4 0 9 ≠ 0 then (if 0 ≤ f61 s a2 a3 hc then (if a4 ≤ hc.2.1 (.inr (s, 7)) (Int32.toNatClampNeg (f61 s a2 a3 hc)) then ((f170 s 4 (f61 s a2 a3 hc) (f65 (hc.2.1 (.inr (s, 7)) (Int32.toNatClampNeg (f61 s a2 a3 hc))) a4) hc).1 - (f170 s 4 (f61 s a2 a3 hc) (f65 (hc.2.1 (.inr (s, 7)) (Int32.toNatClampNeg (f61 s a2 a3 hc))) a4) hc).1 / 10 * 10, (f170 s 4 (f61 s a2 a3 hc) (f65 (hc.2.1 (.inr (s, 7)) (Int32.toNatClampNeg (f61 s a2 a3 hc))) a4) hc).2) else (-1, hc)) else (-2, hc)) else (-1, hc) := by
          rw [K, e1]
          show (if f164 s a2 hc = 0 then _ else if f164 s a3 hc = 0 then _ else _) = _
          rw [if_neg (by rw [g1]; exact n10), if_neg (by rw [g2]; exact n10)]
          rfl
        clear K
        have K := K'
        clear K'
        rw [w_ws] at K
        rcases rs_pb (a := a1) Ds n15 A2 (by omega) h1 hx hy hu hv with ⟨k, hk, ne, ek, Q, f1, W⟩ | ⟨ek, un⟩
        · have nxy : ¬ a2 = a3 := i_ne hx hy (by omega)
          obtain ⟨q1, q2, q3, q4, q5, q6, q7, q8, q9⟩ := rs_k.b Q
          obtain ⟨⟨s1, s2⟩, c1, c2⟩ := h9 (36 * s + 6 * u + v)
          have hX : rD hc (.inr (s, 7)) k = rD hr (.inl 111) (36 * s + 6 * u + v) := congrArg Int32.toInt q8.symm
          have hC : rD hc (.inr (s, 8)) k = rD hr (.inl 112) (36 * s + 6 * u + v) := congrArg Int32.toInt q9.symm
          rw [if_pos (show 0 ≤ f61 s a2 a3 hc from i_le k_0 ek (by omega)), i_cl ek] at K
          rw [if_neg nxy, if_pos (by rw [f1]; exact n10)] at T
          have T2 : f202 a1 a2 a3 a4 hr = if f173 a4 0 (hr.2.1 (.inl 111) (36 * s + 6 * u + v)) ≠ 0 then (if hr.2.1 (.inl 112) (36 * s + 6 * u + v) ≠ a4 then (hr.2.1 (.inl 112) (36 * s + 6 * u + v), f200 3 (f179 a1 a2 a3) a4 0 (f198 3 (f179 a1 a2 a3) (hr.2.1 (.inl 112) (36 * s + 6 * u + v)) a4 0 hr)) else (hr.2.1 (.inl 112) (36 * s + 6 * u + v), hr)) else (-1, hr) := by
            rw [T]
            show (if f173 a4 0 (hr.2.1 (.inl 111) (Int32.toNatClampNeg (f179 a1 a2 a3))) ≠ 0 then (if hr.2.1 (.inl 112) (Int32.toNatClampNeg (f179 a1 a2 a3)) ≠ a4 then (hr.2.1 (.inl 112) (Int32.toNatClampNeg (f179 a1 a2 a3)), f200 3 (f179 a1 a2 a3) a4 0 (f198 3 (f179 a1 a2 a3) (hr.2.1 (.inl 112) (Int32.toNatClampNeg (f179 a1 a2 a3))) a4 0 hr)) else (hr.2.1 (.inl 112) (Int32.toNatClampNeg (f179 a1 a2 a3)), hr)) else (-1, hr)) = _
            rw [i_cl W]
          by_cases q : 0 ≤ a4.toInt ∧ a4.toInt ≤ rD hr (.inl 111) (36 * s + 6 * u + v)
          · rw [if_pos (by rw [w173_1 rfl k_0 k_9 (show 0 ≤ a4.toInt ∧ a4.toInt ≤ 9 by omega)]; exact n10), if_pos (i_le rfl hX (by omega))] at K
            rw [if_pos (by rw [w173_1 rfl k_0 rfl q]; exact n10)] at T2
            have pv := pk_v (x := hc.2.1 (.inr (s, 7)) k) (y := hc.2.1 (.inr (s, 8)) k) hX hC (by omega)
            have pw := pk_v (x := hc.2.1 (.inr (s, 7)) k) (y := a4) hX rfl (by omega)
            obtain ⟨pd, pe⟩ := pk_d pw (by omega)
            have ed : f65 (hc.2.1 (.inr (s, 7)) k) a4 / 10 = hc.2.1 (.inr (s, 7)) k := i_eq pd hX rfl
            have ee : f65 (hc.2.1 (.inr (s, 7)) k) a4 - f65 (hc.2.1 (.inr (s, 7)) k) a4 / 10 * 10 = a4 := i_eq pe rfl rfl
            have em : f65 (hc.2.1 (.inr (s, 7)) k) (hc.2.1 (.inr (s, 8)) k) - f65 (hc.2.1 (.inr (s, 7)) k) (hc.2.1 (.inr (s, 8)) k) / 10 * 10 = hr.2.1 (.inl 112) (36 * s + 6 * u + v) := i_eq (pk_d pv (by omega)).2 rfl rfl
            have L := C170p (s := s) (h := hc) (x := f65 (hc.2.1 (.inr (s, 7)) k) a4) ek
            rw [ee, ed] at L
            by_cases c : hr.2.1 (.inl 112) (36 * s + 6 * u + v) = a4
            · rw [if_pos (i_eq pv pw (by
                have := congrArg Int32.toInt c
                unfold rD
                omega))] at L
              rw [L] at K
              rw [if_neg (fun z => z c)] at T2
              exact fin K T2 em
            · rw [if_neg (i_ne pv pw (fun z => c (i_eq rfl rfl (by unfold rD at z; omega))))] at L
              rw [L] at K
              rw [if_pos c] at T2
              have fr := R198f (a1 := 3) (a2 := f179 a1 a2 a3) (a3 := hr.2.1 (.inl 112) (36 * s + 6 * u + v)) (a4 := a4) (a5 := 0) H.2.2.1 (by have := H.2.2.2.2.1; omega)
              have r3 : ∀ i, (f198 3 (f179 a1 a2 a3) (hr.2.1 (.inl 112) (36 * s + 6 * u + v)) a4 0 hr).2.1 (.inl 113) i = hr.2.1 (.inl 113) i := fun i => fr.2.2.2 113 i (by omega) (by omega)
              have Wp := R199 (hr := f198 3 (f179 a1 a2 a3) (hr.2.1 (.inl 112) (36 * s + 6 * u + v)) a4 0 hr) (d := hc.2.1 (.inr (s, 7)) k) (e := a4) (b := F + k) W (by omega) (by omega) ne (by omega) (by unfold rD; rw [r3]; exact q6) (by unfold rD; rw [r3]; exact q7) (by have := Ds.2.2.1; omega)
              rw [K, T2, R200p, i_cl W, fr.2.2.2 111 _ (by omega) (by omega), q8]
              exact ⟨em, rq_piece (X := rD hr (.inl 111) (36 * s + 6 * u + v)) (Y := rD hr (.inl 111) (36 * s + 6 * u + v)) (cb := rD hr (.inl 112) (36 * s + 6 * u + v)) (ca := a4.toInt) A H lt Ds hk Q ek W pv pw (by have := rs_k.le Q; omega) rfl hX hX (Or.inl ⟨rfl, rfl, rfl, rfl⟩) Wp⟩
          · rw [if_neg (by rw [w173_0 rfl k_0 rfl q]; exact fun z => z rfl)] at T2
            by_cases q9 : 0 ≤ a4.toInt ∧ a4.toInt ≤ 9
            · rw [if_pos (by rw [w173_1 rfl k_0 k_9 q9]; exact n10), if_neg (i_nle rfl hX (by omega))] at K
              exact fin K T2 rfl
            · rw [if_neg (by rw [w173_0 rfl k_0 k_9 q9]; exact fun z => z rfl)] at K
              exact fin K T2 rfl
        · rw [ek, if_neg (show ¬ (0 : Int32) ≤ -1 by decide +kernel)] at K
          have T2 : f202 a1 a2 a3 a4 hr = if f173 a4 0 9 = 0 then (-1, hr) else (-2, hr) := by
            rcases un with un | ⟨un, z⟩
            · rw [T, if_pos (i_eq hx hy (by omega))]
            · rw [T, if_neg (i_ne hx hy (by omega)), if_neg (by rw [z]; exact fun t => t rfl)]
          by_cases z : f173 a4 0 9 = 0
          · rw [if_neg (fun t => t z)] at K
            rw [if_pos z] at T2
            exact fin K T2 rfl
          · rw [if_pos z] at K
            rw [if_neg z] at T2
            exact fin K T2 rfl
      · rw [if_neg (by rw [g1']; exact n10), if_neg (by rw [g2']; exact fun z => z rfl)] at T
        refine fin (x := -1) ?_ T rfl
        rw [K, e1]
        show (if f164 s a2 hc = 0 then _ else if f164 s a3 hc = 0 then _ else _) = _
        rw [if_neg (by rw [g1]; exact n10), if_pos g2]
    · rw [if_pos g1'] at T
      refine fin (x := -1) ?_ T rfl
      rw [K, e1]
      show (if f164 s a2 hc = 0 then _ else _) = _
      rw [if_pos g1]
  · rw [if_pos e1'] at T
    refine fin (x := -1) ?_ T rfl
    rw [K, e1]
    rfl
/-- a stroke on a corner -/
theorem rq_heavy (A : rs_A hc hr S N) (H : rh_H hc hr S V D U) (lt : s < S) (Ds : rs_D hc hr N s C n F) (hc1 : c < C) (h1 : a1.toInt = (s : Int)) (hx : a2.toInt = (c : Int)) (hv : 1 ≤ rD hr (.inl 107) (6 * s + c)) {rc rr : Int32 × mx_H}
    (K : rc = if 1 < hc.2.1 (.inr (s, 1)) c then ((f170 s 3 a2 (hc.2.1 (.inr (s, 1)) c - 1) hc).2.2.1 (.inr (s, 1)) c, (f170 s 3 a2 (hc.2.1 (.inr (s, 1)) c - 1) hc).2) else (-4, hc))
    (T : rr = if hr.2.1 (.inl 107) (6 * s + c) ≠ 1 then ((f198 5 (6 * a1 + a2) (hr.2.1 (.inl 107) (6 * s + c)) (hr.2.1 (.inl 107) (6 * s + c) - 1) 0 hr).2.1 (.inl 107) (6 * s + c) - 1, mx_uI (f198 5 (6 * a1 + a2) (hr.2.1 (.inl 107) (6 * s + c)) (hr.2.1 (.inl 107) (6 * s + c) - 1) 0 hr) (.inl 107) (6 * s + c) ((f198 5 (6 * a1 + a2) (hr.2.1 (.inl 107) (6 * s + c)) (hr.2.1 (.inl 107) (6 * s + c) - 1) 0 hr).2.1 (.inl 107) (6 * s + c) - 1)) else (-4, hr)) :
    rc.1 = rr.1 ∧ rs_A rc.2 rr.2 S N ∧ ∃ V' D' U', rh_H rc.2 rr.2 S V' D' U' := by
  obtain ⟨A1, A2, A3, A4, A5, A6, A7, A8, A9, A10⟩ := id A
  have C6 := Ds.2.1
  obtain ⟨b1, -, -, -⟩ := Ds.2.2.2.2.2.2.2.1 c hc1
  have hp := w6 h1 hx (show s ≤ 12 by omega) (show c < 6 by omega)
  have hX : rD hc (.inr (s, 1)) c = rD hr (.inl 107) (6 * s + c) := congrArg Int32.toInt b1
  by_cases q : hr.2.1 (.inl 107) (6 * s + c) = 1
  · rw [if_neg (i_nlt k_1 hX (by unfold rD; rw [q, k_1]; omega))] at K
    rw [if_neg (fun z => z q)] at T
    rw [K, T]
    exact ⟨rfl, A, V, D, U, H⟩
  · have q2 : 2 ≤ rD hr (.inl 107) (6 * s + c) := by
      have : rD hr (.inl 107) (6 * s + c) ≠ 1 := fun z => q (i_eq z k_1 rfl)
      omega
    have bb := i_b (hr.2.1 (.inl 107) (6 * s + c))
    rw [if_pos (i_lt k_1 hX (by omega))] at K
    rw [if_pos q] at T
    have fr := R198f (a1 := 5) (a2 := 6 * a1 + a2) (a3 := hr.2.1 (.inl 107) (6 * s + c)) (a4 := hr.2.1 (.inl 107) (6 * s + c) - 1) (a5 := 0) H.2.2.1 (by have := H.2.2.2.2.1; omega)
    rw [fr.2.2.2 107 _ (by omega) (by omega)] at T
    have m1 : (hr.2.1 (.inl 107) (6 * s + c) - 1).toInt = rD hr (.inl 107) (6 * s + c) - 1 := i_sub rfl k_1 (by unfold rD at q2 ⊢; omega) (by unfold rD at q2 ⊢; omega)
    have L := C170c (s := s) (h := hc) (x := hc.2.1 (.inr (s, 1)) c - 1) (b1 := 5) (o := 1) (a1 := 3) (Or.inr (Or.inr (Or.inl ⟨rfl, rfl, rfl⟩))) hx
    rw [b1] at L K
    rw [if_neg (i_ne rfl m1 (by unfold rD; omega))] at L
    rw [L] at K
    have fc := C17f (s := s) (a2 := 3) (a3 := a2) (a4 := hr.2.1 (.inl 107) (6 * s + c)) (a5 := hr.2.1 (.inl 107) (6 * s + c) - 1) (h := mx_uI hc (.inr (s, 1)) c (hr.2.1 (.inl 107) (6 * s + c) - 1)) (D := D) H.1 (by have := H.2.2.2.2.1; omega) H.R
    rw [K, T]
    refine ⟨?_, rq_corner A H lt (by omega) (o := 1) (b1 := 5) (Or.inr (Or.inr (Or.inl ⟨rfl, rfl, rfl⟩))) hx hp b1 (fun t => by omega)⟩
    show (f17 s 3 a2 (hr.2.1 (.inl 107) (6 * s + c)) (hr.2.1 (.inl 107) (6 * s + c) - 1) (mx_uI hc (.inr (s, 1)) c (hr.2.1 (.inl 107) (6 * s + c) - 1))).2.1 (.inr (s, 1)) c = _
    rw [fc.2.2.1 (s, 1) c, rI_s]
set_option maxHeartbeats 8000000 in
/-- a stroke on a piece -/
theorem rq_filed (A : rs_A hc hr S N) (H : rh_H hc hr S V D U) (h9 : rb_9 hr) (lt : s < S) (Ds : rs_D hc hr N s C n F) (hk : k < n) (Q : rs_k hc hr s C F k u v ∨ rs_k hc hr s C F k v u) (ek : a2.toInt = (k : Int)) (W : p.toInt = ((36 * s + 6 * u + v : Nat) : Int)) (hv : 1 ≤ rD hr (.inl 111) (36 * s + 6 * u + v)) {rc rr : Int32 × mx_H}
    (K : rc = if 1 ≤ hc.2.1 (.inr (s, 7)) k - 1 then (hc.2.1 (.inr (s, 7)) k - 1, (f170 s 4 a2 (f65 (hc.2.1 (.inr (s, 7)) k - 1) (if hc.2.1 (.inr (s, 7)) k - 1 < hc.2.1 (.inr (s, 8)) k then hc.2.1 (.inr (s, 7)) k - 1 else hc.2.1 (.inr (s, 8)) k)) hc).2) else (-4, hc))
    (T : rr = if hr.2.1 (.inl 111) (36 * s + 6 * u + v) ≠ 1 then ((f199 p ((f198 4 p (hr.2.1 (.inl 111) (36 * s + 6 * u + v)) (hr.2.1 (.inl 111) (36 * s + 6 * u + v) - 1) (hr.2.1 (.inl 112) (36 * s + 6 * u + v)) hr).2.1 (.inl 111) (36 * s + 6 * u + v) - 1) (f174 ((f198 4 p (hr.2.1 (.inl 111) (36 * s + 6 * u + v)) (hr.2.1 (.inl 111) (36 * s + 6 * u + v) - 1) (hr.2.1 (.inl 112) (36 * s + 6 * u + v)) hr).2.1 (.inl 112) (36 * s + 6 * u + v)) ((f198 4 p (hr.2.1 (.inl 111) (36 * s + 6 * u + v)) (hr.2.1 (.inl 111) (36 * s + 6 * u + v) - 1) (hr.2.1 (.inl 112) (36 * s + 6 * u + v)) hr).2.1 (.inl 111) (36 * s + 6 * u + v) - 1)) (f198 4 p (hr.2.1 (.inl 111) (36 * s + 6 * u + v)) (hr.2.1 (.inl 111) (36 * s + 6 * u + v) - 1) (hr.2.1 (.inl 112) (36 * s + 6 * u + v)) hr)).2.1 (.inl 111) (36 * s + 6 * u + v),
      f199 p ((f198 4 p (hr.2.1 (.inl 111) (36 * s + 6 * u + v)) (hr.2.1 (.inl 111) (36 * s + 6 * u + v) - 1) (hr.2.1 (.inl 112) (36 * s + 6 * u + v)) hr).2.1 (.inl 111) (36 * s + 6 * u + v) - 1) (f174 ((f198 4 p (hr.2.1 (.inl 111) (36 * s + 6 * u + v)) (hr.2.1 (.inl 111) (36 * s + 6 * u + v) - 1) (hr.2.1 (.inl 112) (36 * s + 6 * u + v)) hr).2.1 (.inl 112) (36 * s + 6 * u + v)) ((f198 4 p (hr.2.1 (.inl 111) (36 * s + 6 * u + v)) (hr.2.1 (.inl 111) (36 * s + 6 * u + v) - 1) (hr.2.1 (.inl 112) (36 * s + 6 * u + v)) hr).2.1 (.inl 111) (36 * s + 6 * u + v) - 1)) (f198 4 p (hr.2.1 (.inl 111) (36 * s + 6 * u + v)) (hr.2.1 (.inl 111) (36 * s + 6 * u + v) - 1) (hr.2.1 (.inl 112) (36 * s + 6 * u + v)) hr)) else (-4, hr)) :
    rc.1 = rr.1 ∧ rs_A rc.2 rr.2 S N ∧ ∃ V' D' U', rh_H rc.2 rr.2 S V' D' U' := by
  obtain ⟨A1, A2, A3, A4, A5, A6, A7, A8, A9, A10⟩ := id A
  obtain ⟨q1, q2, q3, q4, q5, q6, q7, q8, q9⟩ := rs_k.b Q
  have C6 := Ds.2.1
  obtain ⟨⟨s1, s2⟩, c1, c2⟩ := h9 (36 * s + 6 * u + v)
  generalize hst : hr.2.1 (.inl 111) (36 * s + 6 * u + v) = st at T q8
  generalize hcr : hr.2.1 (.inl 112) (36 * s + 6 * u + v) = cr at T q9
  unfold rD at s1 s2 c1 c2 hv
  rw [hst] at s1 s2 hv
  rw [hcr] at c1 c2
  rw [← q8, ← q9] at K
  have m1 : (st - 1).toInt = st.toInt - 1 := i_sub rfl k_1 (by omega) (by omega)
  by_cases q : st = 1
  · rw [if_neg (i_nle k_1 m1 (by rw [q, k_1]; omega))] at K
    rw [if_neg (fun z => z q)] at T
    rw [K, T]
    exact ⟨rfl, A, V, D, U, H⟩
  · have g2 : 2 ≤ st.toInt := by
      have : st.toInt ≠ 1 := fun z => q (i_eq z k_1 rfl)
      omega
    rw [if_pos (i_le k_1 m1 (by omega))] at K
    rw [if_pos q] at T
    have fr := R198f (a1 := 4) (a2 := p) (a3 := st) (a4 := st - 1) (a5 := cr) H.2.2.1 (by have := H.2.2.2.2.1; omega)
    rw [fr.2.2.2 111 _ (by omega) (by omega), fr.2.2.2 112 _ (by omega) (by omega), hst, hcr] at T
    have mm : (if st - 1 < cr then st - 1 else cr) = f174 cr (st - 1) := by
      rw [f174_eq]
      by_cases z : st - 1 < cr
      · have z' := Int32.lt_iff_toInt_lt.mp z
        rw [if_pos z, if_pos (i_le m1 rfl (by omega))]
      · have z' : cr.toInt ≤ (st - 1).toInt := Int.not_lt.mp (fun t => z (Int32.lt_iff_toInt_lt.mpr t))
        rw [if_neg z]
        by_cases y : st - 1 ≤ cr
        · have y' := Int32.le_iff_toInt_le.mp y
          rw [if_pos y]
          exact i_eq rfl m1 (by omega)
        · rw [if_neg y]
    have mv : (f174 cr (st - 1)).toInt = min cr.toInt (st.toInt - 1) := by
      rw [f174_eq]
      by_cases y : st - 1 ≤ cr
      · have y' := Int32.le_iff_toInt_le.mp y
        rw [if_pos y]
        omega
      · have y' : cr.toInt < (st - 1).toInt := Int.not_le.mp (fun t => y (Int32.le_iff_toInt_le.mpr t))
        rw [if_neg y]
        omega
    rw [mm] at K
    generalize hmn : f174 cr (st - 1) = mn at K T mv
    have pv := pk_v (x := st) (y := cr) rfl rfl (by omega)
    have pw := pk_v (x := st - 1) (y := mn) m1 mv (by omega)
    obtain ⟨pd, pe⟩ := pk_d pw (by omega)
    have ed : f65 (st - 1) mn / 10 = st - 1 := i_eq pd m1 rfl
    have ee : f65 (st - 1) mn - f65 (st - 1) mn / 10 * 10 = mn := i_eq pe mv rfl
    have L := C170p (s := s) (h := hc) (x := f65 (st - 1) mn) ek
    rw [← q8, ← q9, ee, ed, if_neg (i_ne pv pw (by omega))] at L
    rw [L] at K
    have r3 : ∀ i, (f198 4 p st (st - 1) cr hr).2.1 (.inl 113) i = hr.2.1 (.inl 113) i := fun i => fr.2.2.2 113 i (by omega) (by omega)
    have Wp := R199 (hr := f198 4 p st (st - 1) cr hr) (d := st - 1) (e := mn) (b := F + k) W (by omega) (by omega) q3 (by omega) (by unfold rD; rw [r3]; exact q6) (by unfold rD; rw [r3]; exact q7) (by have := Ds.2.2.1; omega)
    rw [K, T]
    refine ⟨?_, rq_piece (X := st.toInt) (Y := st.toInt - 1) (cb := cr.toInt) (ca := min cr.toInt (st.toInt - 1)) A H lt Ds hk Q ek W pv pw (by
      have le := rs_k.le Q
      unfold rD at le
      rw [← q8, ← q9] at le
      omega) mv (by unfold rD; rw [← q8]) m1 (Or.inr ⟨rfl, rfl, m1, rfl, rfl⟩) Wp⟩
    show st - 1 = _
    rw [Wp.2.2.2.1, if_neg (by omega), if_pos rfl]
set_option maxHeartbeats 8000000 in
theorem rs_stroke (A : rs_A hc hr S N) (H : rh_H hc hr S V D U) (h9 : rb_9 hr) (k2 : ∀ s c : Nat, s < S → (c : Int) < rD hr (.inl 106) s → 1 ≤ rD hr (.inl 107) (6 * s + c)) (k3 : ∀ p : Nat, p < 36 * S → 0 < rD hr (.inl 113) p → 1 ≤ rD hr (.inl 111) p) : (f108 a1 a2 a3 hc).1 = (f203 a1 a2 a3 hr).1 ∧ rs_A (f108 a1 a2 a3 hc).2 (f203 a1 a2 a3 hr).2 S N ∧ ∃ V' D' U', rh_H (f108 a1 a2 a3 hc).2 (f203 a1 a2 a3 hr).2 S V' D' U' := by
  obtain ⟨A1, A2, A3, A4, A5, A6, A7, A8, A9, A10⟩ := id A
  have b31 : g203_31 hr = (-1, hr) := g203_31_eq hr
  have b118 : g203_118 hr = (-2, hr) := g203_118_eq hr
  have fin : ∀ {x : Int32}, f108 a1 a2 a3 hc = (x, hc) → f203 a1 a2 a3 hr = (x, hr) → (f108 a1 a2 a3 hc).1 = (f203 a1 a2 a3 hr).1 ∧ rs_A (f108 a1 a2 a3 hc).2 (f203 a1 a2 a3 hr).2 S N ∧ ∃ V' D' U', rh_H (f108 a1 a2 a3 hc).2 (f203 a1 a2 a3 hr).2 S V' D' U' := fun q1 q2 => by
    rw [q1, q2]
    exact ⟨rfl, A, V, D, U, H⟩
  have K := f108_eq a1 a2 a3 hc
  have T := f203_eq a1 a2 a3 hr
  rcases C166 (a := a1) A with ⟨s, lt, h1, e1, e1'⟩ | ⟨e1, e1'⟩
  · obtain ⟨C, n, F, Ds⟩ := (A9 s lt).2
    have C6 := Ds.2.1
    have n15 : n ≤ 15 := by
      rw [Ds.2.2.2.2.2.2.2.2.2.2.2.1]
      exact sd_C_15 _
    rw [if_neg (by rw [e1']; exact n10)] at T
    rcases C164 (x := a2) h1 Ds.2.2.2.1 Ds.2.2.2.2.1 Ds.2.1 with ⟨u, hu, hx, g1, g1'⟩ | ⟨g1, g1'⟩
    · rw [if_neg (by rw [g1']; exact n10)] at T
      have hp := w6 h1 hx (show s ≤ 12 by omega) (show u < 6 by omega)
      by_cases m : a3 = -1
      · rw [if_pos m, g203_33_eq, if_neg (fun z => z m), i_cl hp] at T
        refine rq_heavy A H lt Ds hu h1 hx (k2 s u lt (by have := Ds.2.2.2.2.1; unfold rD at this ⊢; omega)) ?_ (T.trans ?_)
        · rw [K, e1]
          show (if f164 s a2 hc = 0 then _ else if a3 = -1 then (if a3 ≠ -1 then _ else if 1 < hc.2.1 (.inr (s, 1)) (Int32.toNatClampNeg a2) then ((f170 s 3 a2 (hc.2.1 (.inr (s, 1)) (Int32.toNatClampNeg a2) - 1) hc).2.2.1 (.inr (s, 1)) (Int32.toNatClampNeg a2), (f170 s 3 a2 (hc.2.1 (.inr (s, 1)) (Int32.toNatClampNeg a2) - 1) hc).2) else (-4, hc)) else _) = _
          rw [if_neg (by rw [g1]; exact n10), if_pos m, if_neg (fun z => z m), i_cl hx]
        · by_cases q : hr.2.1 (.inl 107) (6 * s + u) ≠ 1
          · rw [if_pos q, if_pos q]
            simp only [x_h]
            rw [rI_s]
          · rw [if_neg q, if_neg q]
      · rw [if_neg m] at T
        rcases C164 (x := a3) h1 Ds.2.2.2.1 Ds.2.2.2.2.1 Ds.2.1 with ⟨v, hv, hy, g2, g2'⟩ | ⟨g2, g2'⟩
        · rw [if_pos (by rw [g2']; exact n10), g203_33_eq, if_pos m] at T
          have K' : f108 a1 a2 a3 hc = if 0 ≤ f61 s a2 a3 hc then (if 1 ≤ hc.2.1 (.inr (s, 7)) (Int32.toNatClampNeg (f61 s a2 a3 hc)) - 1 then (hc.2.1 (.inr (s, 7)) (Int32.toNatClampNeg (f61 s a2 a3 hc)) - 1, (f170 s 4 (f61 s a2 a3 hc) (f65 (hc.2.1 (.inr (s, 7)) (Int32.toNatClampNeg (f61 s a2 a3 hc)) - 1) (if hc.2.1 (.inr (s, 7)) (Int32.toNatClampNeg (f61 s a2 a3 hc)) - 1 < hc.2.1 (.inr (s, 8)) (Int32.toNatClampNeg (f61 s a2 a3 hc)) then hc.2.1 (.inr (s, 7)) (Int32.toNatClampNeg (f61 s a2 a3 hc)) - 1 else hc.2.1 (.inr (s, 8)) (Int32.toNatClampNeg (f61 s a2 a3 hc)))) hc).2) else (-4, hc)) else (-2, hc) := by
            rw [K, e1]
            show (if f164 s a2 hc = 0 then _ else if a3 = -1 then _ else if f164 s a3 hc ≠ 0 then (if a3 ≠ -1 then _ else _) else _) = _
            rw [if_neg (by rw [g1]; exact n10), if_neg m, if_pos (by rw [g2]; exact n10), if_pos m]
            rfl
          clear K
          rcases rs_pb (a := a1) Ds n15 A2 (by omega) h1 hx hy hu hv with ⟨k, hk, ne, ek, Q, f1, W⟩ | ⟨ek, un⟩
          · obtain ⟨q1, q2, q3, q4, q5, q6, q7, q8, q9⟩ := rs_k.b Q
            rw [if_pos (show 0 ≤ f61 s a2 a3 hc from i_le k_0 ek (by omega)), i_cl ek] at K'
            rw [if_neg (i_ne hx hy (by omega)), if_pos (by rw [f1]; exact n10)] at T
            refine rq_filed (p := f179 a1 a2 a3) A H h9 lt Ds hk Q ek W (k3 _ (by omega) (by rw [q6]; omega)) K' (T.trans ?_)
            show (if hr.2.1 (.inl 111) (Int32.toNatClampNeg (f179 a1 a2 a3)) ≠ 1 then _ else _) = _
            rw [i_cl W]
            rfl
          · rw [ek, if_neg (show ¬ (0 : Int32) ≤ -1 by decide +kernel)] at K'
            refine fin K' ?_
            rcases un with un | ⟨un, z⟩
            · rw [T, if_pos (i_eq hx hy (by omega)), b118]
            · rw [T, if_neg (i_ne hx hy (by omega)), if_neg (by rw [z]; exact fun t => t rfl), b118]
        · rw [if_neg (by rw [g2']; exact fun z => z rfl), b31] at T
          refine fin ?_ T
          rw [K, e1]
          show (if f164 s a2 hc = 0 then _ else if a3 = -1 then _ else if f164 s a3 hc ≠ 0 then _ else _) = _
          rw [if_neg (by rw [g1]; exact n10), if_neg m, if_neg (by rw [g2]; exact fun z => z rfl)]
    · rw [if_pos g1', b31] at T
      refine fin ?_ T
      rw [K, e1]
      show (if f164 s a2 hc = 0 then _ else _) = _
      rw [if_pos g1]
  · rw [if_pos e1', b31] at T
    refine fin ?_ T
    rw [K, e1]
    rfl
end RGG
/-! ===== undo and redo ===== -/
section RHH
variable {h h' g hc hr gc gr kc kr : mx_H} {S N s i j n m k c C F u v o D U E : Nat} {a a1 a2 a3 a4 a5 b1 p x y d e w z : Int32} {V : Nat → Nat → Nat → Int}
/-- what a setting leaves alone -/
def rq_c (h g : mx_H) : Prop := g.1 = h.1 ∧ g.2.2 = h.2.2 ∧ (∀ q i, g.2.1 (.inl q) i = h.2.1 (.inl q) i) ∧ ∀ t q i, q = 0 ∨ q = 5 ∨ q = 6 → g.2.1 (.inr (t, q)) i = h.2.1 (.inr (t, q)) i
def rq_r (h g : mx_H) : Prop := g.1 = h.1 ∧ g.2.2 = h.2.2 ∧ (∀ q i, g.2.1 (.inr q) i = h.2.1 (.inr q) i) ∧ ∀ q i, q < 107 ∨ 112 < q → g.2.1 (.inl q) i = h.2.1 (.inl q) i
/-- the class's side and the reference's, at a corner's entry -/
theorem rq_ac (A : rs_A kc kr S N) (hs : s < S) (R : rh_c kc kr s j) (ew : (w = kc.2.1 (.inl 88) j ∧ x = kr.2.1 (.inl 125) j) ∨ (w = kc.2.1 (.inl 89) j ∧ x = kr.2.1 (.inl 126) j)) :
    rs_A (f67 s (kc.2.1 (.inl 86) j) (kc.2.1 (.inl 87) j) w kc) (f200 (kr.2.1 (.inl 123) j) (kr.2.1 (.inl 124) j) x y kr) S N ∧ rq_c kc (f67 s (kc.2.1 (.inl 86) j) (kc.2.1 (.inl 87) j) w kc) ∧ rq_r kr (f200 (kr.2.1 (.inl 123) j) (kr.2.1 (.inl 124) j) x y kr) ∧ ∀ t i, (f67 s (kc.2.1 (.inl 86) j) (kc.2.1 (.inl 87) j) w kc).2.1 (.inr (t, 7)) i = kc.2.1 (.inr (t, 7)) i := by
  obtain ⟨o, c, c6, q1, q2, q3, q4, q5⟩ := R
  have f : rq_f o (kc.2.1 (.inl 86) j) (kr.2.1 (.inl 123) j) := by
    rcases q5 with ⟨t, z1, z2⟩ | ⟨t, z1, z2⟩ | ⟨t, z1, z2⟩ | ⟨t, z1, z2, -⟩
    · exact Or.inl ⟨t, z1, z2⟩
    · exact Or.inr (Or.inl ⟨t, z1, z2⟩)
    · exact Or.inr (Or.inr (Or.inl ⟨t, z1, z2⟩))
    · exact Or.inr (Or.inr (Or.inr ⟨t, z1, z2⟩))
  have wx : w = x := by
    rcases ew with ⟨z1, z2⟩ | ⟨z1, z2⟩
    · rw [z1, z2, q3]
    · rw [z1, z2, q4]
  have b4 : o = 4 → x = 0 ∨ x = 1 := fun t => by
    rcases q5 with ⟨t', -⟩ | ⟨t', -⟩ | ⟨t', -⟩ | ⟨-, -, -, z1, z2⟩
    · omega
    · omega
    · omega
    · rcases ew with ⟨y1, y2⟩ | ⟨y1, y2⟩
      · rw [y2, ← q3]
        exact z1
      · rw [y2, ← q4]
        exact z2
  obtain ⟨o1, o4⟩ := f.bd
  rw [C67c f q1, R200c f q2 b4, wx]
  refine ⟨A.corner hs o1 o4 c6, ⟨rfl, rfl, fun _ _ => rfl, fun t q i z => rI_a (fun z' => by
    cases z'
    omega)⟩, ⟨rfl, rfl, fun _ _ => rfl, fun q i z => rI_a (fun z' => by
    have := Sum.inl.inj z'
    omega)⟩, fun t i => rI_a (fun z' => by
    cases z'
    omega)⟩
/-- at a piece's entry -/
theorem rq_ap {X cz : Int} (A : rs_A kc kr S N) (hs : s < S) (f86 : kc.2.1 (.inl 86) j = 4) (q87 : rD kc (.inl 87) j = (k : Int)) (kn : (k : Int) < rD kc (.inr (s, 0)) 6) (uv : u < 6 ∧ v < 6 ∧ u ≠ v) (q5 : rD kc (.inr (s, 5)) k = ((min u v : Nat) : Int)) (q6 : rD kc (.inr (s, 6)) k = ((max u v : Nat) : Int)) (q124 : rD kr (.inl 124) j = ((36 * s + 6 * u + v : Nat) : Int))
    (hw : w.toInt = 10 * X + cz) (bX : 0 ≤ X ∧ X ≤ 9 ∧ 0 ≤ cz ∧ cz ≤ 9 ∧ cz ≤ X) (cd : (kr.2.1 (.inl 123) j = 3 ∧ x.toInt = cz ∧ rD kc (.inr (s, 7)) k = X) ∨ (kr.2.1 (.inl 123) j = 4 ∧ x.toInt = X ∧ y.toInt = cz)) :
    rs_A (f67 s (kc.2.1 (.inl 86) j) (kc.2.1 (.inl 87) j) w kc) (f200 (kr.2.1 (.inl 123) j) (kr.2.1 (.inl 124) j) x y kr) S N ∧ rq_c kc (f67 s (kc.2.1 (.inl 86) j) (kc.2.1 (.inl 87) j) w kc) ∧ rq_r kr (f200 (kr.2.1 (.inl 123) j) (kr.2.1 (.inl 124) j) x y kr) ∧ rD (f67 s (kc.2.1 (.inl 86) j) (kc.2.1 (.inl 87) j) w kc) (.inr (s, 7)) k = X ∧ ∀ t i, ¬ (t = s ∧ i = k) → (f67 s (kc.2.1 (.inl 86) j) (kc.2.1 (.inl 87) j) w kc).2.1 (.inr (t, 7)) i = kc.2.1 (.inr (t, 7)) i := by
  obtain ⟨A1, A2, A3, A4, A5, A6, A7, A8, A9, A10⟩ := id A
  obtain ⟨C, n, F, Ds⟩ := (A9 s hs).2
  have n6 := Ds.2.2.2.2.2.1
  have fn := Ds.2.2.1
  obtain ⟨u0, v0, Q0⟩ := Ds.2.2.2.2.2.2.2.2.2.1 k (by omega)
  have p4 := Q0.2.2.2.1
  have p5 := Q0.2.2.2.2.1
  have Q : rs_k kc kr s C F k u v ∨ rs_k kc kr s C F k v u := by
    have t : (u0 = u ∧ v0 = v) ∨ (u0 = v ∧ v0 = u) := by omega
    rcases t with ⟨t1, t2⟩ | ⟨t1, t2⟩
    · rw [t1, t2] at Q0
      exact Or.inl Q0
    · rw [t1, t2] at Q0
      exact Or.inr Q0
  obtain ⟨r1, r2, r3, r4, r5, r6, r7, r8, r9⟩ := rs_k.b Q
  obtain ⟨pd, pe⟩ := pk_d hw (by omega)
  have E : f200 (kr.2.1 (.inl 123) j) (kr.2.1 (.inl 124) j) x y kr = f199 (kr.2.1 (.inl 124) j) (w / 10) (w - w / 10 * 10) kr := by
    rcases cd with ⟨c1, c2, c3⟩ | ⟨c1, c2, c3⟩
    · rw [c1, R200p, i_cl q124, r8, i_eq c3 pd rfl, i_eq c2 pe rfl]
    · rw [c1, R200q, i_eq c2 pd rfl, i_eq c3 pe rfl]
  have W := R199 (hr := kr) (d := w / 10) (e := w - w / 10 * 10) (b := F + k) q124 uv.1 uv.2.1 uv.2.2 (by omega) r6 r7 (by omega)
  rw [E, f86, C67p q87]
  have cl : ∀ t q i, ¬ (t = s ∧ (q = 7 ∨ q = 8) ∧ i = k) → (mx_uI (mx_uI kc (.inr (s, 7)) k (w / 10)) (.inr (s, 8)) k (w - w / 10 * 10)).2.1 (.inr (t, q)) i = kc.2.1 (.inr (t, q)) i := fun t q i z => (if_neg (fun z' => by
    have z1 := z'.1
    have z2 := z'.2
    cases z1
    exact z ⟨rfl, Or.inr rfl, z2⟩)).trans (if_neg (fun z' => by
    have z1 := z'.1
    have z2 := z'.2
    cases z1
    exact z ⟨rfl, Or.inl rfl, z2⟩))
  refine ⟨A.piece2 hs Ds (by omega) Q W (by omega), ⟨rfl, rfl, fun _ _ => rfl, fun t q i z => cl t q i (by omega)⟩, ⟨W.1, W.2.1, W.2.2.1, fun q i z => W.2.2.2.2.2 q i (by omega) (by omega)⟩, ?_, fun t i z => cl t 7 i (fun z' => z ⟨z'.1, z'.2.2⟩)⟩
  unfold rD
  rw [rS (by decide +kernel), rI_s]
  exact pd
def k_19 (h : mx_H) : mx_H := mx_uI (mx_uI h (.inl 84) 0 (h.2.1 (.inl 84) 0 - 1)) (.inl 84) 1 (h.2.1 (.inl 84) 1 + 1)
def r_04 (h : mx_H) : mx_H := mx_uI (mx_uI h (.inl 105) 24 (h.2.1 (.inl 105) 24 - 1)) (.inl 105) 25 (h.2.1 (.inl 105) 25 + 1)
theorem C144 (hD : rD h (.inl 84) 0 = ((E + 1 : Nat) : Int)) (E40 : E < 40) (e85 : h.2.2.2 (.inl 85) E = some (.inr (s, 0))) : f144 h = ((f67 s (h.2.1 (.inl 86) E) (h.2.1 (.inl 87) E) (h.2.1 (.inl 88) E) (k_19 h)).2.1 (.inl 84) 0, f67 s (h.2.1 (.inl 86) E) (h.2.1 (.inl 87) E) (h.2.1 (.inl 88) E) (k_19 h)) := by
  have hE : (h.2.1 (.inl 84) 0 - 1).toInt = (E : Int) := (i_sub hD k_1 (by omega) (by omega)).trans (by omega)
  rw [f144_eq, if_pos (show h.2.1 (.inl 84) 0 ≠ 0 from i_ne hD k_0 (by omega)), f19_eq, if_pos (i_lt k_0 hD (by omega))]
  show x_h (x_opt (ml_sn (h.2.2.2 (.inl 85) (Int32.toNatClampNeg (h.2.1 (.inl 84) 0 - 1)))) (fun j1 => x_opt (ml_sn (h.2.2.2 (.inl 85) (Int32.toNatClampNeg (h.2.1 (.inl 84) 0 - 1)))) (fun j2 => f67 j2 (h.2.1 (.inl 86) (Int32.toNatClampNeg (h.2.1 (.inl 84) 0 - 1))) (h.2.1 (.inl 87) (Int32.toNatClampNeg (h.2.1 (.inl 84) 0 - 1))) (h.2.1 (.inl 88) (Int32.toNatClampNeg (h.2.1 (.inl 84) 0 - 1))) (k_19 h)) h) (k_19 h)) (fun h2 => (h2.2.1 (.inl 84) 0, h2)) = _
  rw [i_cl hE, x_opt_s e85, x_opt_s e85]
  rfl
theorem R204 (hD : rD h (.inl 105) 24 = ((E + 1 : Nat) : Int)) (E40 : E < 40) : f204 h = ((f200 (h.2.1 (.inl 123) E) (h.2.1 (.inl 124) E) (h.2.1 (.inl 125) E) (h.2.1 (.inl 127) E) (r_04 h)).2.1 (.inl 105) 24, f200 (h.2.1 (.inl 123) E) (h.2.1 (.inl 124) E) (h.2.1 (.inl 125) E) (h.2.1 (.inl 127) E) (r_04 h)) := by
  have hE : (h.2.1 (.inl 105) 24 - 1).toInt = (E : Int) := (i_sub hD k_1 (by omega) (by omega)).trans (by omega)
  rw [f204_eq, if_pos (show h.2.1 (.inl 105) 24 ≠ 0 from i_ne hD k_0 (by omega))]
  show ((f200 (h.2.1 (.inl 123) (Int32.toNatClampNeg (h.2.1 (.inl 105) 24 - 1))) (h.2.1 (.inl 124) (Int32.toNatClampNeg (h.2.1 (.inl 105) 24 - 1))) (h.2.1 (.inl 125) (Int32.toNatClampNeg (h.2.1 (.inl 105) 24 - 1))) (h.2.1 (.inl 127) (Int32.toNatClampNeg (h.2.1 (.inl 105) 24 - 1))) (r_04 h)).2.1 (.inl 105) 24, f200 (h.2.1 (.inl 123) (Int32.toNatClampNeg (h.2.1 (.inl 105) 24 - 1))) (h.2.1 (.inl 124) (Int32.toNatClampNeg (h.2.1 (.inl 105) 24 - 1))) (h.2.1 (.inl 125) (Int32.toNatClampNeg (h.2.1 (.inl 105) 24 - 1))) (h.2.1 (.inl 127) (Int32.toNatClampNeg (h.2.1 (.inl 105) 24 - 1))) (r_04 h)) = _
  rw [i_cl hE]
/-- counters of histories alone -/
theorem rs_A.c84 {x y : Int32} (A : rs_A hc hr S N) : rs_A (mx_uI (mx_uI hc (.inl 84) 0 x) (.inl 84) 1 y) hr S N := A
theorem rs_A.r24 {x y : Int32} (A : rs_A hc hr S N) : rs_A hc (mx_uI (mx_uI hr (.inl 105) 24 x) (.inl 105) 25 y) S N := A.g rs_u.refl ⟨rfl, rfl, fun _ => rfl, fun _ => rfl, fun s _ k i w' => by
  unfold rs_w at w'
  rw [rN (by omega), rN (by omega)]⟩
theorem rh_e.same (p85 : ∀ i, gc.2.2.2 (.inl 85) i = hc.2.2.2 (.inl 85) i) (p : ∀ q i, 86 ≤ q → q ≤ 89 → gc.2.1 (.inl q) i = hc.2.1 (.inl q) i) (r : ∀ q i, 123 ≤ q → q ≤ 127 → gr.2.1 (.inl q) i = hr.2.1 (.inl q) i) (sc : rh_s S hc gc) (e : rh_e hc hr S V j) : rh_e gc gr S V j :=
  rh_e.x (m := 0) (V := V) (p85 j) (fun q l1 l2 => p q j l1 l2) (fun q l1 l2 => r q j l1 l2) sc (Nat.le_refl _) (fun _ _ _ => ⟨rfl, rfl⟩) (fun s k l1 l2 => by omega) e
set_option maxHeartbeats 8000000 in
theorem rs_undo (A : rs_A hc hr S N) (H : rh_H hc hr S V D U) : (f144 hc).1 = (f204 hr).1 ∧ rs_A (f144 hc).2 (f204 hr).2 S N ∧ ∃ V' D' U', rh_H (f144 hc).2 (f204 hr).2 S V' D' U' := by
  obtain ⟨h1, h2, h3, h4, h5, h6, h7⟩ := id H
  cases D with
  | zero =>
    rw [f144_eq, if_neg (fun z => z (i_eq h1 k_0 rfl)), f204_eq, if_neg (fun z => z (i_eq h3 k_0 rfl))]
    exact ⟨rfl, A, V, 0, U, H⟩
  | succ E =>
    have ent := h7 E (by omega)
    obtain ⟨s, hs, e85, ee⟩ := id ent
    rw [C144 h1 (by omega) e85, R204 h3 (by omega)]
    have A' : rs_A (k_19 hc) (r_04 hr) S N := A.c84.r24
    have kE : (hc.2.1 (.inl 84) 0 - 1).toInt = (E : Int) := (i_sub h1 k_1 (by omega) (by omega)).trans (by omega)
    have rE : (hr.2.1 (.inl 105) 24 - 1).toInt = (E : Int) := (i_sub h3 k_1 (by omega) (by omega)).trans (by omega)
    have kU : (hc.2.1 (.inl 84) 1 + 1).toInt = ((U + 1 : Nat) : Int) := (i_add h2 k_1 (by omega) (by omega)).trans (by omega)
    have rU : (hr.2.1 (.inl 105) 25 + 1).toInt = ((U + 1 : Nat) : Int) := (i_add h4 k_1 (by omega) (by omega)).trans (by omega)
    have go : ∀ gc gr : mx_H, rs_A gc gr S N → rq_c (k_19 hc) gc → rq_r (r_04 hr) gr → (∀ t k, t < S → V E t k = rD gc (.inr (t, 7)) k) → gc.2.1 (.inl 84) 0 = gr.2.1 (.inl 105) 24 ∧ rs_A gc gr S N ∧ ∃ V' D' U', rh_H gc gr S V' D' U' := fun gc gr B fc fr vv => by
      have c0 : gc.2.1 (.inl 84) 0 = hc.2.1 (.inl 84) 0 - 1 := fc.2.2.1 84 0
      have c1 : gc.2.1 (.inl 84) 1 = hc.2.1 (.inl 84) 1 + 1 := fc.2.2.1 84 1
      have d0 : gr.2.1 (.inl 105) 24 = hr.2.1 (.inl 105) 24 - 1 := fr.2.2.2 105 24 (by omega)
      have d1 : gr.2.1 (.inl 105) 25 = hr.2.1 (.inl 105) 25 + 1 := fr.2.2.2 105 25 (by omega)
      refine ⟨?_, B, V, E, U + 1, ?_, ?_, ?_, ?_, by omega, vv, fun j hj => rh_e.same (hc := hc) (hr := hr) (fun i => ?_) (fun q i l1 l2 => ?_) (fun q i l1 l2 => ?_) (fun t ht => ⟨?_, fun k => ⟨?_, ?_⟩⟩) (h7 j (by omega))⟩
      · rw [c0, d0]
        exact i_eq kE rE rfl
      · unfold rD
        rw [c0]
        exact kE
      · unfold rD
        rw [c1]
        exact kU
      · unfold rD
        rw [d0]
        exact rE
      · unfold rD
        rw [d1]
        exact rU
      · rw [show gc.2.2.2 = hc.2.2.2 from congrArg Prod.snd fc.2.1]
      · refine (fc.2.2.1 q i).trans ?_
        unfold k_19
        rw [rN (by omega), rN (by omega)]
      · refine (fr.2.2.2 q i (by omega)).trans ?_
        unfold r_04
        rw [rN (by omega), rN (by omega)]
      · exact fc.2.2.2 t 0 6 (by omega)
      · exact fc.2.2.2 t 5 k (by omega)
      · exact fc.2.2.2 t 6 k (by omega)
    rcases ee with ⟨R, vv⟩ | ⟨k, u, v, X, Y, cb, ca, q1, q2, q3, q4, q5, q6, q7, q8, q9, q10, q11, q12, q13, q14⟩
    · obtain ⟨B, fc, fr, v7⟩ := rq_ac (kc := k_19 hc) (kr := r_04 hr) (w := hc.2.1 (.inl 88) E) (x := hr.2.1 (.inl 125) E) (y := hr.2.1 (.inl 127) E) A' hs R (Or.inl ⟨rfl, rfl⟩)
      refine go _ _ B fc fr (fun t k ht => ?_)
      rw [← vv t k ht, h6 t k ht]
      exact congrArg Int32.toInt (v7 t k).symm
    · obtain ⟨B, fc, fr, v7, v8⟩ := rq_ap (X := X) (cz := cb) (kc := k_19 hc) (kr := r_04 hr) (w := hc.2.1 (.inl 88) E) (x := hr.2.1 (.inl 125) E) (y := hr.2.1 (.inl 127) E) A' hs q1 q2 q3 q4 q5 q6 q7 q8 (by omega) (by
        rcases q14 with ⟨c1, c2, c3, c4⟩ | ⟨c1, c2, c3, c4, c5⟩
        · exact Or.inl ⟨c1, c2, (h6 s k hs).symm.trans (q12.trans c4.symm)⟩
        · exact Or.inr ⟨c1, c2, c4⟩)
      refine go _ _ B fc fr (fun t i ht => ?_)
      by_cases z : t = s ∧ i = k
      · rw [z.1, z.2, q11]
        exact v7.symm
      · rw [← q13 t i ht z, h6 t i ht]
        exact congrArg Int32.toInt (v8 t i z).symm
def k_20 (h : mx_H) : mx_H := mx_uI (mx_uI h (.inl 84) 0 (h.2.1 (.inl 84) 0 + 1)) (.inl 84) 1 (h.2.1 (.inl 84) 1 - 1)
def r_05 (h : mx_H) : mx_H := mx_uI (mx_uI h (.inl 105) 24 (h.2.1 (.inl 105) 24 + 1)) (.inl 105) 25 (h.2.1 (.inl 105) 25 - 1)
theorem C145 (hD : rD h (.inl 84) 0 = D) (D40 : D < 40) (hU : rD h (.inl 84) 1 = ((U + 1 : Nat) : Int)) (e85 : h.2.2.2 (.inl 85) D = some (.inr (s, 0))) : f145 h = ((k_20 (f67 s (h.2.1 (.inl 86) D) (h.2.1 (.inl 87) D) (h.2.1 (.inl 89) D) h)).2.1 (.inl 84) 1, k_20 (f67 s (h.2.1 (.inl 86) D) (h.2.1 (.inl 87) D) (h.2.1 (.inl 89) D) h)) := by
  rw [f145_eq, if_pos (show h.2.1 (.inl 84) 1 ≠ 0 from i_ne hU k_0 (by omega)), f20_eq, if_neg (i_nle hU k_0 (by omega)), if_pos (i_lt hD k_40 (by omega)), i_cl hD, x_opt_s e85, x_opt_s e85]
  rfl
theorem R205 (hD : rD h (.inl 105) 24 = D) (hU : rD h (.inl 105) 25 = ((U + 1 : Nat) : Int)) : f205 h = ((r_05 (f200 (h.2.1 (.inl 123) D) (h.2.1 (.inl 124) D) (h.2.1 (.inl 126) D) (f174 (h.2.1 (.inl 127) D) (h.2.1 (.inl 126) D)) h)).2.1 (.inl 105) 25, r_05 (f200 (h.2.1 (.inl 123) D) (h.2.1 (.inl 124) D) (h.2.1 (.inl 126) D) (f174 (h.2.1 (.inl 127) D) (h.2.1 (.inl 126) D)) h)) := by
  rw [f205_eq, if_pos (show h.2.1 (.inl 105) 25 ≠ 0 from i_ne hU k_0 (by omega)), i_cl hD]
  rfl
theorem f174_v {X Y : Int} (hx : x.toInt = X) (hy : y.toInt = Y) : (f174 x y).toInt = min X Y := by
  rw [f174_eq]
  by_cases t : y ≤ x
  · have t' := Int32.le_iff_toInt_le.mp t
    rw [if_pos t]
    omega
  · have t' : x.toInt < y.toInt := Int.not_le.mp (fun q => t (Int32.le_iff_toInt_le.mpr q))
    rw [if_neg t]
    omega
set_option maxHeartbeats 8000000 in
theorem rs_redo (A : rs_A hc hr S N) (H : rh_H hc hr S V D U) : (f145 hc).1 = (f205 hr).1 ∧ rs_A (f145 hc).2 (f205 hr).2 S N ∧ ∃ V' D' U', rh_H (f145 hc).2 (f205 hr).2 S V' D' U' := by
  obtain ⟨h1, h2, h3, h4, h5, h6, h7⟩ := id H
  cases U with
  | zero =>
    rw [f145_eq, if_neg (fun z => z (i_eq h2 k_0 rfl)), f205_eq, if_neg (fun z => z (i_eq h4 k_0 rfl))]
    exact ⟨rfl, A, V, D, 0, H⟩
  | succ U =>
    have ent := h7 D (by omega)
    obtain ⟨s, hs, e85, ee⟩ := id ent
    rw [C145 h1 (by omega) h2 e85, R205 h3 h4]
    have kE : (hc.2.1 (.inl 84) 0 + 1).toInt = ((D + 1 : Nat) : Int) := (i_add h1 k_1 (by omega) (by omega)).trans (by omega)
    have rE : (hr.2.1 (.inl 105) 24 + 1).toInt = ((D + 1 : Nat) : Int) := (i_add h3 k_1 (by omega) (by omega)).trans (by omega)
    have kU : (hc.2.1 (.inl 84) 1 - 1).toInt = (U : Int) := (i_sub h2 k_1 (by omega) (by omega)).trans (by omega)
    have rU : (hr.2.1 (.inl 105) 25 - 1).toInt = (U : Int) := (i_sub h4 k_1 (by omega) (by omega)).trans (by omega)
    have go : ∀ gc gr : mx_H, rs_A gc gr S N → rq_c hc gc → rq_r hr gr → (∀ t k, t < S → V (D + 1) t k = rD gc (.inr (t, 7)) k) → (k_20 gc).2.1 (.inl 84) 1 = (r_05 gr).2.1 (.inl 105) 25 ∧ rs_A (k_20 gc) (r_05 gr) S N ∧ ∃ V' D' U', rh_H (k_20 gc) (r_05 gr) S V' D' U' := fun gc gr B fc fr vv => by
      have c0 : gc.2.1 (.inl 84) 0 = hc.2.1 (.inl 84) 0 := fc.2.2.1 84 0
      have c1 : gc.2.1 (.inl 84) 1 = hc.2.1 (.inl 84) 1 := fc.2.2.1 84 1
      have d0 : gr.2.1 (.inl 105) 24 = hr.2.1 (.inl 105) 24 := fr.2.2.2 105 24 (by omega)
      have d1 : gr.2.1 (.inl 105) 25 = hr.2.1 (.inl 105) 25 := fr.2.2.2 105 25 (by omega)
      have B' : rs_A (k_20 gc) (r_05 gr) S N := B.c84.r24
      refine ⟨?_, B', V, D + 1, U, ?_, ?_, ?_, ?_, by omega, fun t k ht => (vv t k ht), fun j hj => rh_e.same (hc := hc) (hr := hr) (fun i => ?_) (fun q i l1 l2 => ?_) (fun q i l1 l2 => ?_) (fun t ht => ⟨?_, fun k => ⟨?_, ?_⟩⟩) (h7 j (by omega))⟩
      · show gc.2.1 (.inl 84) 1 - 1 = gr.2.1 (.inl 105) 25 - 1
        rw [c1, d1]
        exact i_eq kU rU rfl
      · show (gc.2.1 (.inl 84) 0 + 1).toInt = _
        rw [c0]
        exact kE
      · show (gc.2.1 (.inl 84) 1 - 1).toInt = _
        rw [c1]
        exact kU
      · show (gr.2.1 (.inl 105) 24 + 1).toInt = _
        rw [d0]
        exact rE
      · show (gr.2.1 (.inl 105) 25 - 1).toInt = _
        rw [d1]
        exact rU
      · show gc.2.2.2 (.inl 85) i = _
        rw [show gc.2.2.2 = hc.2.2.2 from congrArg Prod.snd fc.2.1]
      · unfold k_20
        rw [rN (by omega), rN (by omega)]
        exact fc.2.2.1 q i
      · unfold r_05
        rw [rN (by omega), rN (by omega)]
        exact fr.2.2.2 q i (by omega)
      · exact fc.2.2.2 t 0 6 (by omega)
      · exact fc.2.2.2 t 5 k (by omega)
      · exact fc.2.2.2 t 6 k (by omega)
    rcases ee with ⟨R, vv⟩ | ⟨k, u, v, X, Y, cb, ca, q1, q2, q3, q4, q5, q6, q7, q8, q9, q10, q11, q12, q13, q14⟩
    · obtain ⟨B, fc, fr, v7⟩ := rq_ac (kc := hc) (kr := hr) (w := hc.2.1 (.inl 89) D) (x := hr.2.1 (.inl 126) D) (y := f174 (hr.2.1 (.inl 127) D) (hr.2.1 (.inl 126) D)) A hs R (Or.inr ⟨rfl, rfl⟩)
      refine go _ _ B fc fr (fun t k ht => ?_)
      rw [vv t k ht, h6 t k ht]
      exact congrArg Int32.toInt (v7 t k).symm
    · obtain ⟨B, fc, fr, v7, v8⟩ := rq_ap (X := Y) (cz := ca) (kc := hc) (kr := hr) (w := hc.2.1 (.inl 89) D) (x := hr.2.1 (.inl 126) D) (y := f174 (hr.2.1 (.inl 127) D) (hr.2.1 (.inl 126) D)) A hs q1 q2 q3 q4 q5 q6 q7 q9 (by omega) (by
        rcases q14 with ⟨c1, c2, c3, c4⟩ | ⟨c1, c2, c3, c4, c5⟩
        · exact Or.inl ⟨c1, c3, (h6 s k hs).symm.trans (q11.trans c4)⟩
        · exact Or.inr ⟨c1, c3, (f174_v c4 c3).trans c5.symm⟩)
      refine go _ _ B fc fr (fun t i ht => ?_)
      by_cases z : t = s ∧ i = k
      · rw [z.1, z.2, q12]
        exact v7.symm
      · rw [q13 t i ht z, h6 t i ht]
        exact congrArg Int32.toInt (v8 t i z).symm
end RHH
/-! ===== tones counted; a cell of an array behind a store ===== -/
section RSP
variable {h hc hr : mx_H} {S N s n C F u v c k : Nat} {a a1 a2 a3 a4 x y : Int32}
theorem sh_i {i : Nat} {p : Nat} {w : Int32} {j : Nat} : (mx_uI h (.inl p) j w).2.1 (.inl p) i = if i = j then w else h.2.1 (.inl p) i := by
  by_cases e : i = j
  · rw [if_pos e, rI_c rfl e]
  · rw [if_neg e, rI_i e]
/-- tones are counted alike -/
theorem aw_tg (h1 : a1.toInt = (s : Int)) (s12 : s ≤ 12) (C6 : C ≤ 6) (kc : rD hc (.inr (s, 0)) 0 = C) (kr : rD hr (.inl 106) s = C) (he : ∀ c, c < C → hc.2.1 (.inr (s, 4)) c = hr.2.1 (.inl 110) (6 * s + c)) : ∀ (j c : Nat) (x y : Int32), c + j = C → y.toInt = (c : Int) → g60_4 s x y hc = g195_4 a1 x y hr
  | 0, c, x, y, e, hy => by rw [g60_4_eq, g195_4_eq, i_cl h1, if_pos (i_le kc hy (by omega)), if_pos (i_le kr hy (by omega))]
  | j + 1, c, x, y, e, hy => by
    have hp := w6 h1 hy s12 (show c < 6 by omega)
    have hy1 : (y + 1).toInt = ((c + 1 : Nat) : Int) := (i_add hy k_1 (by omega) (by omega)).trans (by omega)
    rw [g60_4_eq, g195_4_eq, i_cl h1, if_neg (i_nle kc hy (by omega)), if_neg (i_nle kr hy (by omega)), i_cl hy, i_cl hp, he c (by omega)]
    by_cases z : hr.2.1 (.inl 110) (6 * s + c) = 0
    · rw [if_neg (fun t => t z), if_pos z]
      exact aw_tg h1 s12 C6 kc kr he j (c + 1) (x + 1) (y + 1) (by omega) hy1
    · rw [if_pos z, if_neg z, show x + 0 = x from Int32.add_zero x]
      exact aw_tg h1 s12 C6 kc kr he j (c + 1) x (y + 1) (by omega) hy1
theorem aw_tones (Ds : rs_D hc hr N s C n F) (s12 : s ≤ 12) (h1 : a1.toInt = (s : Int)) : f60 s hc = f195 a1 hr := by
  rw [f60_eq, f195_eq]
  exact aw_tg h1 s12 Ds.2.1 Ds.2.2.2.1 Ds.2.2.2.2.1 (fun c hc1 => (Ds.2.2.2.2.2.2.2.1 c hc1).2.2.2) C 0 0 0 (by omega) rfl
end RSP
/-! ===== the told strokes and wishes, on both sides ===== -/
section RTI
variable {h g hc hr hc' hr' : mx_H} {S S' N s n C F u v c k P W j t : Nat} {a a1 a2 a3 a4 a5 x y : Int32}
/-- stroke j of the list, of shape s -/
def rl_e (hc hr : mx_H) (s j : Nat) : Prop := hc.2.1 (.inl 63) j = hr.2.1 (.inl 142) j ∧ ((hc.2.1 (.inl 61) j = 3 ∧ hc.2.1 (.inl 62) j = hr.2.1 (.inl 140) j ∧ hr.2.1 (.inl 141) j = -1) ∨ (hc.2.1 (.inl 61) j = 4 ∧ ∃ k u v : Nat, rD hc (.inl 62) j = k ∧ (k : Int) < rD hc (.inr (s, 0)) 6 ∧ (u < 6 ∧ v < 6 ∧ u ≠ v) ∧ rD hc (.inr (s, 5)) k = ((min u v : Nat) : Int) ∧ rD hc (.inr (s, 6)) k = ((max u v : Nat) : Int) ∧ rD hr (.inl 140) j = u ∧ rD hr (.inl 141) j = v))
def rl_w (hc hr : mx_H) (j : Nat) : Prop := hc.2.1 (.inl 64) j = hr.2.1 (.inl 143) j ∧ hc.2.1 (.inl 65) j = hr.2.1 (.inl 144) j ∧ hc.2.1 (.inl 66) j = hr.2.1 (.inl 145) j
def rl_P (hc hr : mx_H) (S P : Nat) : Prop := P ≤ 6 ∧ rD hc (.inl 60) 1 = P ∧ rD hr (.inl 105) 51 = P ∧ (0 < P → ∃ s : Nat, s < S ∧ rD hc (.inl 60) 0 = s ∧ rD hr (.inl 105) 52 = s ∧ ∀ j, j < P → rl_e hc hr s j)
def rl_W (hc hr : mx_H) (W : Nat) : Prop := W ≤ 6 ∧ rD hc (.inl 60) 5 = W ∧ rD hr (.inl 105) 56 = W ∧ ∀ j, j < W → rl_w hc hr j
def rt_L (hc hr : mx_H) (S : Nat) : Prop := (∃ P, rl_P hc hr S P) ∧ ∃ W, rl_W hc hr W
theorem rl_e.fx (p : ∀ q, 61 ≤ q → q ≤ 63 → hc'.2.1 (.inl q) j = hc.2.1 (.inl q) j) (r : ∀ q, 140 ≤ q → q ≤ 142 → hr'.2.1 (.inl q) j = hr.2.1 (.inl q) j) (s6 : hc'.2.1 (.inr (s, 0)) 6 = hc.2.1 (.inr (s, 0)) 6) (s5 : ∀ k, hc'.2.1 (.inr (s, 5)) k = hc.2.1 (.inr (s, 5)) k ∧ hc'.2.1 (.inr (s, 6)) k = hc.2.1 (.inr (s, 6)) k) (e : rl_e hc hr s j) : rl_e hc' hr' s j := by
  unfold rl_e rD at e ⊢
  rw [p 61 (by decide +kernel) (by decide +kernel), p 62 (by decide +kernel) (by decide +kernel), p 63 (by decide +kernel) (by decide +kernel), r 140 (by decide +kernel) (by decide +kernel), r 141 (by decide +kernel) (by decide +kernel), r 142 (by decide +kernel) (by decide +kernel), s6]
  obtain ⟨e1, e2⟩ := e
  refine ⟨e1, ?_⟩
  rcases e2 with e2 | ⟨e2, k, u, v, q1, q2, q3, q4, q5, q6, q7⟩
  · exact Or.inl e2
  · refine Or.inr ⟨e2, k, u, v, q1, q2, q3, ?_, ?_, q6, q7⟩
    · rw [(s5 k).1]
      exact q4
    · rw [(s5 k).2]
      exact q5
theorem rl_P.fx (SS : S ≤ S') (p : ∀ q i, 60 ≤ q → q ≤ 63 → (q = 60 → i = 0 ∨ i = 1) → hc'.2.1 (.inl q) i = hc.2.1 (.inl q) i) (r : ∀ q i, 140 ≤ q → q ≤ 142 → hr'.2.1 (.inl q) i = hr.2.1 (.inl q) i) (r1 : hr'.2.1 (.inl 105) 51 = hr.2.1 (.inl 105) 51) (r2 : hr'.2.1 (.inl 105) 52 = hr.2.1 (.inl 105) 52) (sc : rh_s S hc hc') (L : rl_P hc hr S P) : rl_P hc' hr' S' P := by
  obtain ⟨l1, l2, l3, l4⟩ := L
  refine ⟨l1, ?_, ?_, fun z => ?_⟩
  · unfold rD
    rw [p 60 1 (by decide +kernel) (by decide +kernel) (by omega)]
    exact l2
  · unfold rD
    rw [r1]
    exact l3
  · obtain ⟨s, s1, s2, s3, s4⟩ := l4 z
    refine ⟨s, by omega, ?_, ?_, fun j hj => (s4 j hj).fx (fun q w1 w2 => p q j (by omega) w2 (by omega)) (fun q w1 w2 => r q j w1 w2) (sc s s1).1 (sc s s1).2⟩
    · unfold rD
      rw [p 60 0 (by decide +kernel) (by decide +kernel) (by omega)]
      exact s2
    · unfold rD
      rw [r2]
      exact s3
theorem rl_W.fx (p5 : hc'.2.1 (.inl 60) 5 = hc.2.1 (.inl 60) 5) (p : ∀ q i, 64 ≤ q → q ≤ 66 → hc'.2.1 (.inl q) i = hc.2.1 (.inl q) i) (r : ∀ q i, 143 ≤ q → q ≤ 145 → hr'.2.1 (.inl q) i = hr.2.1 (.inl q) i) (r1 : hr'.2.1 (.inl 105) 56 = hr.2.1 (.inl 105) 56) (L : rl_W hc hr W) : rl_W hc' hr' W := by
  obtain ⟨l1, l2, l3, l4⟩ := L
  refine ⟨l1, ?_, ?_, fun j hj => ?_⟩
  · unfold rD
    rw [p5]
    exact l2
  · unfold rD
    rw [r1]
    exact l3
  · unfold rl_w
    rw [p 64 j (by decide +kernel) (by decide +kernel), p 65 j (by decide +kernel) (by decide +kernel), p 66 j (by decide +kernel) (by decide +kernel), r 143 j (by decide +kernel) (by decide +kernel), r 144 j (by decide +kernel) (by decide +kernel), r 145 j (by decide +kernel) (by decide +kernel)]
    exact l4 j hj
/-- whether a stroke is told: the class -/
theorem C43 (hP : rD h (.inl 60) 1 = P) (P6 : P ≤ 6) : ∀ (i j : Nat) (a3 : Int32), j + i = P → a3.toInt = (j : Int) → (∃ q, j ≤ q ∧ q < P ∧ h.2.1 (.inl 61) q = x ∧ h.2.1 (.inl 62) q = y ∧ g43_2 x y a3 h = 1) ∨ ((∀ q, j ≤ q → q < P → ¬ (h.2.1 (.inl 61) q = x ∧ h.2.1 (.inl 62) q = y)) ∧ g43_2 x y a3 h = 0)
  | 0, j, a3, e, ha => Or.inr ⟨fun q l1 l2 => by omega, by rw [g43_2_eq, if_pos (i_le hP ha (by omega))]⟩
  | i + 1, j, a3, e, ha => by
    have E := g43_2_eq x y a3 h
    rw [if_neg (i_nle hP ha (by omega)), i_cl ha] at E
    have nx := C43 hP P6 i (j + 1) (a3 + 1) (by omega) ((i_add ha k_1 (by omega) (by omega)).trans (by omega))
    by_cases m : h.2.1 (.inl 61) j = x ∧ h.2.1 (.inl 62) j = y
    · rw [if_neg (fun z => z m.1), if_neg (fun z => z m.2)] at E
      exact Or.inl ⟨j, Nat.le_refl _, by omega, m.1, m.2, E⟩
    · have E' : g43_2 x y a3 h = g43_2 x y (a3 + 1) h := by
        by_cases m1 : h.2.1 (.inl 61) j = x
        · rw [if_neg (fun z => z m1), if_pos (fun z => m ⟨m1, z⟩)] at E
          exact E
        · rw [if_pos m1] at E
          exact E
      rw [E']
      rcases nx with ⟨q, q1, q2, q3, q4, q5⟩ | ⟨q1, q2⟩
      · exact Or.inl ⟨q, by omega, q2, q3, q4, q5⟩
      · refine Or.inr ⟨fun q l1 l2 => ?_, q2⟩
        by_cases ej : q = j
        · rw [ej]
          exact m
        · exact q1 q (by omega) l2
/-- whether it is told: the reference -/
def rl_m (h : mx_H) (a2 a3 : Int32) (q : Nat) : Prop := (h.2.1 (.inl 140) q = a2 ∧ h.2.1 (.inl 141) q = a3) ∨ (¬ a3 < 0 ∧ h.2.1 (.inl 140) q = a3 ∧ h.2.1 (.inl 141) q = a2)
theorem R239 (hP : rD h (.inl 105) 51 = P) (P6 : P ≤ 6) : ∀ (i j : Nat) (a5 : Int32), j + i = P → a5.toInt = (j : Int) → (∃ q, j ≤ q ∧ q < P ∧ rl_m h a2 a3 q ∧ g239_61 a1 a2 a3 a4 a5 h = (-1, h)) ∨ ((∀ q, j ≤ q → q < P → ¬ rl_m h a2 a3 q) ∧ ∃ b : Int32, b.toInt = (P : Int) ∧ g239_61 a1 a2 a3 a4 a5 h = g239_61 a1 a2 a3 a4 b h)
  | 0, j, a5, e, ha => Or.inr ⟨fun q l1 l2 => by omega, a5, ha.trans (by omega), rfl⟩
  | i + 1, j, a5, e, ha => by
    have E := g239_61_eq a1 a2 a3 a4 a5 h
    rw [if_neg (i_nle hP ha (by omega)), i_cl ha] at E
    have nx := R239 hP P6 i (j + 1) (a5 + 1) (by omega) ((i_add ha k_1 (by omega) (by omega)).trans (by omega))
    have D : (rl_m h a2 a3 j ∧ g239_61 a1 a2 a3 a4 a5 h = (-1, h)) ∨ (¬ rl_m h a2 a3 j ∧ g239_61 a1 a2 a3 a4 a5 h = g239_61 a1 a2 a3 a4 (a5 + 1) h) := by
      by_cases m1 : h.2.1 (.inl 140) j = a2
      · rw [if_neg (fun z => z m1)] at E
        by_cases m2 : h.2.1 (.inl 141) j = a3
        · rw [if_pos m2] at E
          exact Or.inl ⟨Or.inl ⟨m1, m2⟩, E⟩
        · rw [if_neg m2] at E
          by_cases m3 : a3 < 0
          · rw [if_pos m3] at E
            exact Or.inr ⟨fun z => z.elim (fun z => m2 z.2) (fun z => z.1 m3), E⟩
          · rw [if_neg m3] at E
            by_cases m4 : h.2.1 (.inl 140) j = a3
            · rw [if_neg (fun z => z m4)] at E
              by_cases m5 : h.2.1 (.inl 141) j = a2
              · rw [if_neg (fun z => z m5)] at E
                exact Or.inl ⟨Or.inr ⟨m3, m4, m5⟩, E⟩
              · rw [if_pos m5] at E
                exact Or.inr ⟨fun z => z.elim (fun z => m2 z.2) (fun z => m5 z.2.2), E⟩
            · rw [if_pos m4] at E
              exact Or.inr ⟨fun z => z.elim (fun z => m2 z.2) (fun z => m4 z.2.1), E⟩
      · rw [if_pos m1] at E
        by_cases m3 : a3 < 0
        · rw [if_pos m3] at E
          exact Or.inr ⟨fun z => z.elim (fun z => m1 z.1) (fun z => z.1 m3), E⟩
        · rw [if_neg m3] at E
          by_cases m4 : h.2.1 (.inl 140) j = a3
          · rw [if_neg (fun z => z m4)] at E
            by_cases m5 : h.2.1 (.inl 141) j = a2
            · rw [if_neg (fun z => z m5)] at E
              exact Or.inl ⟨Or.inr ⟨m3, m4, m5⟩, E⟩
            · rw [if_pos m5] at E
              exact Or.inr ⟨fun z => z.elim (fun z => m1 z.1) (fun z => m5 z.2.2), E⟩
          · rw [if_pos m4] at E
            exact Or.inr ⟨fun z => z.elim (fun z => m1 z.1) (fun z => m4 z.2.1), E⟩
    rcases D with ⟨d1, d2⟩ | ⟨d1, d2⟩
    · exact Or.inl ⟨j, Nat.le_refl _, by omega, d1, d2⟩
    · rcases nx with ⟨q, q1, q2, q3, q4⟩ | ⟨q1, b, q2, q3⟩
      · exact Or.inl ⟨q, by omega, q2, q3, d2.trans q4⟩
      · refine Or.inr ⟨fun q l1 l2 => ?_, b, q2, d2.trans q3⟩
        by_cases ej : q = j
        · rw [ej]
          exact d1
        · exact q1 q (by omega) l2
def r_pl (h : mx_H) (P : Nat) (a1 a2 a3 a4 : Int32) : mx_H := mx_uI (mx_uI (mx_uI (mx_uI (mx_uI h (.inl 105) 52 a1) (.inl 140) P a2) (.inl 141) P a3) (.inl 142) P a4) (.inl 105) 51 (h.2.1 (.inl 105) 51 + 1)
theorem R239x {b : Int32} (hP : rD h (.inl 105) 51 = P) (hb : b.toInt = (P : Int)) : g239_61 a1 a2 a3 a4 b h = if a3 < 0 then (if h.2.1 (.inl 105) 51 ≠ 6 then (h.2.1 (.inl 105) 51 + 1, r_pl h P a1 a2 a3 a4) else (-3, h)) else (if a2 = a3 then (-2, h) else (if f180 a1 a2 a3 h ≠ 0 then (if h.2.1 (.inl 105) 51 ≠ 6 then (h.2.1 (.inl 105) 51 + 1, r_pl h P a1 a2 a3 a4) else (-3, h)) else (-2, h))) := by
  rw [g239_61_eq, if_pos (i_le hP hb (by omega))]
  have e : r_pl h P a1 a2 a3 a4 = r_pl h (Int32.toNatClampNeg (h.2.1 (.inl 105) 51)) a1 a2 a3 a4 := by rw [i_cl hP]
  rw [e]
  rfl
def k_pl (h : mx_H) (P : Nat) (a1 x y a4 : Int32) : mx_H := mx_uI (mx_uI (mx_uI (mx_uI (mx_uI h (.inl 60) 0 a1) (.inl 61) P x) (.inl 62) P y) (.inl 63) P a4) (.inl 60) 1 (h.2.1 (.inl 60) 1 + 1)
theorem C44 (hP : rD h (.inl 60) 1 = P) (P6 : P < 6) : f44 x y a4 (mx_uI h (.inl 60) 0 a1) = k_pl h P a1 x y a4 := by
  have e : k_pl h P a1 x y a4 = k_pl h (Int32.toNatClampNeg (h.2.1 (.inl 60) 1)) a1 x y a4 := by rw [i_cl hP]
  rw [f44_eq, if_pos (show (mx_uI h (.inl 60) 0 a1).2.1 (.inl 60) 1 < 6 from i_lt (show ((mx_uI h (.inl 60) 0 a1).2.1 (.inl 60) 1).toInt = P from hP) k_6 (by omega)), e]
  rfl
theorem C120 (ne : a3 ≠ -1) : g120_65 a1 a2 a3 a4 s h = if 0 ≤ f61 s a2 a3 h then (if f43 4 (f61 s a2 a3 h) h = 0 then (if h.2.1 (.inl 60) 1 < 6 then ((f44 4 (f61 s a2 a3 h) a4 (mx_uI h (.inl 60) 0 a1)).2.1 (.inl 60) 1, f44 4 (f61 s a2 a3 h) a4 (mx_uI h (.inl 60) 0 a1)) else (-3, h)) else (-1, h)) else (-2, h) := by
  rw [g120_65_eq, if_pos ne, if_pos ne]
  rfl
theorem C120h (eq : a3 = -1) : g120_65 a1 a2 a3 a4 s h = if 0 ≤ a2 then (if f43 3 a2 h = 0 then (if h.2.1 (.inl 60) 1 < 6 then ((f44 3 a2 a4 (mx_uI h (.inl 60) 0 a1)).2.1 (.inl 60) 1, f44 3 a2 a4 (mx_uI h (.inl 60) 0 a1)) else (-3, h)) else (-1, h)) else (-2, h) := by
  rw [g120_65_eq, if_neg (fun z => z eq), if_neg (fun z => z eq)]
  rfl
/-- a stroke more -/
theorem rl_add (hs : s < S) (P6 : P < 6) (hP : rD hc (.inl 60) 1 = P) (hQ : rD hr (.inl 105) 51 = P) (h1 : a1.toInt = (s : Int)) (E : ∀ j, j < P → rl_e hc hr s j) (new : ∀ g g' : mx_H, g.2.1 (.inl 61) P = x → g.2.1 (.inl 62) P = y → g.2.1 (.inl 63) P = a4 → g'.2.1 (.inl 140) P = a2 → g'.2.1 (.inl 141) P = a3 → g'.2.1 (.inl 142) P = a4 → (∀ q i, g.2.1 (.inr q) i = hc.2.1 (.inr q) i) → rl_e g g' s P) : rl_P (k_pl hc P a1 x y a4) (r_pl hr P a1 a2 a3 a4) S (P + 1) := by
  have c1 : ∀ i, (k_pl hc P a1 x y a4).2.1 (.inl 61) i = if i = P then x else hc.2.1 (.inl 61) i := fun i => (show (mx_uI (mx_uI hc (.inl 60) 0 a1) (.inl 61) P x).2.1 (.inl 61) i = _ from sh_i)
  have c2 : ∀ i, (k_pl hc P a1 x y a4).2.1 (.inl 62) i = if i = P then y else hc.2.1 (.inl 62) i := fun i => (show (mx_uI (mx_uI (mx_uI hc (.inl 60) 0 a1) (.inl 61) P x) (.inl 62) P y).2.1 (.inl 62) i = _ from sh_i)
  have c3 : ∀ i, (k_pl hc P a1 x y a4).2.1 (.inl 63) i = if i = P then a4 else hc.2.1 (.inl 63) i := fun i => (show (mx_uI (mx_uI (mx_uI (mx_uI hc (.inl 60) 0 a1) (.inl 61) P x) (.inl 62) P y) (.inl 63) P a4).2.1 (.inl 63) i = _ from sh_i)
  have d1 : ∀ i, (r_pl hr P a1 a2 a3 a4).2.1 (.inl 140) i = if i = P then a2 else hr.2.1 (.inl 140) i := fun i => (show (mx_uI (mx_uI hr (.inl 105) 52 a1) (.inl 140) P a2).2.1 (.inl 140) i = _ from sh_i)
  have d2 : ∀ i, (r_pl hr P a1 a2 a3 a4).2.1 (.inl 141) i = if i = P then a3 else hr.2.1 (.inl 141) i := fun i => (show (mx_uI (mx_uI (mx_uI hr (.inl 105) 52 a1) (.inl 140) P a2) (.inl 141) P a3).2.1 (.inl 141) i = _ from sh_i)
  have d3 : ∀ i, (r_pl hr P a1 a2 a3 a4).2.1 (.inl 142) i = if i = P then a4 else hr.2.1 (.inl 142) i := fun i => (show (mx_uI (mx_uI (mx_uI (mx_uI hr (.inl 105) 52 a1) (.inl 140) P a2) (.inl 141) P a3) (.inl 142) P a4).2.1 (.inl 142) i = _ from sh_i)
  refine ⟨by omega, ?_, ?_, fun _ => ⟨s, hs, h1, h1, fun j hj => ?_⟩⟩
  · show (hc.2.1 (.inl 60) 1 + 1).toInt = _
    exact (i_add hP k_1 (by omega) (by omega)).trans (by omega)
  · show (hr.2.1 (.inl 105) 51 + 1).toInt = _
    exact (i_add hQ k_1 (by omega) (by omega)).trans (by omega)
  · by_cases e : j = P
    · rw [e]
      exact new _ _ (by rw [c1, if_pos rfl]) (by rw [c2, if_pos rfl]) (by rw [c3, if_pos rfl]) (by rw [d1, if_pos rfl]) (by rw [d2, if_pos rfl]) (by rw [d3, if_pos rfl]) (fun _ _ => rfl)
    · refine rl_e.fx (hc := hc) (hr := hr) (fun q w1 w2 => ?_) (fun q w1 w2 => ?_) rfl (fun _ => ⟨rfl, rfl⟩) (E j (by omega))
      · rcases (show q = 61 ∨ q = 62 ∨ q = 63 by omega) with w | w | w
        · subst w
          rw [c1, if_neg e]
        · subst w
          rw [c2, if_neg e]
        · subst w
          rw [c3, if_neg e]
      · rcases (show q = 140 ∨ q = 141 ∨ q = 142 by omega) with w | w | w
        · subst w
          rw [d1, if_neg e]
        · subst w
          rw [d2, if_neg e]
        · subst w
          rw [d3, if_neg e]
set_option maxHeartbeats 8000000 in
/-- the list's own part of plan -/
theorem rl_core (A : rs_A hc hr S N) (hs : s < S) (Ds : rs_D hc hr N s C n F) (h1 : a1.toInt = (s : Int)) (hx : a2.toInt = (u : Int)) (hu : u < C) (b3 : a3 = -1 ∨ ∃ v, v < C ∧ a3.toInt = (v : Int)) (P6 : P ≤ 6) (hP : rD hc (.inl 60) 1 = P) (hQ : rD hr (.inl 105) 51 = P) (L0 : rl_P hc hr S P) (LW : rl_W hc hr W) (E : ∀ j, j < P → rl_e hc hr s j) : (g120_65 a1 a2 a3 a4 s hc).1 = (g239_61 a1 a2 a3 a4 0 hr).1 ∧ rt_L (g120_65 a1 a2 a3 a4 s hc).2 (g239_61 a1 a2 a3 a4 0 hr).2 S := by
  have A2 := A.2.1
  have A1 := A.1
  have C6 := Ds.2.1
  have n15 : n ≤ 15 := by
    rw [Ds.2.2.2.2.2.2.2.2.2.2.2.1]
    exact sd_C_15 _
  have n6 := Ds.2.2.2.2.2.1
  have pq : hc.2.1 (.inl 60) 1 = hr.2.1 (.inl 105) 51 := i_eq hP hQ rfl
  have ref := R239 (a1 := a1) (a2 := a2) (a3 := a3) (a4 := a4) hQ P6 P 0 0 (by omega) rfl
  by_cases m : a3 = -1
  · -- a corner
    rw [C120h m, if_pos (show (0 : Int32) ≤ a2 from i_le k_0 hx (by omega)), f43_eq]
    have mr : ∀ q, q < P → (rl_m hr a2 a3 q ↔ hc.2.1 (.inl 61) q = 3 ∧ hc.2.1 (.inl 62) q = a2) := fun q hq => by
      obtain ⟨-, e2⟩ := E q hq
      rcases e2 with ⟨w1, w2, w3⟩ | ⟨w1, k, u', v', w2, w3, w4, w5, w6, w7, w8⟩
      · refine ⟨fun z => ⟨w1, ?_⟩, fun z => Or.inl ⟨w2.symm.trans z.2, w3.trans m.symm⟩⟩
        rcases z with z | z
        · exact w2.trans z.1
        · exact absurd (show a3 < 0 by rw [m]; decide) z.1
      · refine ⟨fun z => ?_, fun z => ?_⟩
        · exfalso
          rcases z with z | z
          · rw [m] at z
            have := congrArg Int32.toInt z.2
            unfold rD at w8
            rw [w8, k_m1] at this
            omega
          · exact absurd (show a3 < 0 by rw [m]; decide) z.1
        · rw [w1] at z
          exact absurd z.1 (by decide +kernel)
    rcases C43 (x := 3) (y := a2) hP P6 P 0 0 (by omega) rfl with ⟨q, q1, q2, q3, q4, q5⟩ | ⟨q1, q5⟩
    · rcases ref with ⟨-, -, -, -, r⟩ | ⟨r, -⟩
      · rw [q5, if_neg n10, r]
        exact ⟨rfl, ⟨P, L0⟩, W, LW⟩
      · exact absurd ((mr q q2).mpr ⟨q3, q4⟩) (r q q1 q2)
    · rcases ref with ⟨q, w1, w2, w3, w4⟩ | ⟨-, b, r1, r2⟩
      · exact absurd ((mr q w2).mp w3) (q1 q w1 w2)
      · rw [q5, if_pos rfl, r2, R239x hQ r1, if_pos (show a3 < 0 by rw [m]; decide)]
        by_cases f : P = 6
        · rw [if_neg (i_nlt hP k_6 (by omega)), if_neg (fun z => z (i_eq hQ k_6 (by omega)))]
          exact ⟨rfl, ⟨P, L0⟩, W, LW⟩
        · rw [if_pos (i_lt hP k_6 (by omega)), if_pos (show hr.2.1 (.inl 105) 51 ≠ 6 from i_ne hQ k_6 (by omega)), C44 hP (by omega)]
          refine ⟨?_, ⟨P + 1, rl_add hs (by omega) hP hQ h1 E (fun g g' t1 t2 t3 t4 t5 t6 t7 => ⟨t3.trans t6.symm, Or.inl ⟨t1, t2.trans t4.symm, t5.trans m⟩⟩)⟩, W, LW⟩
          show hc.2.1 (.inl 60) 1 + 1 = hr.2.1 (.inl 105) 51 + 1
          rw [pq]
  · -- a piece
    obtain ⟨v, hv, hy⟩ := b3.resolve_left m
    have n3 : ¬ a3 < 0 := i_nlt hy k_0 (by omega)
    rw [C120 m]
    have kk : ∀ k' u' v' : Nat, (k' : Int) < rD hc (.inr (s, 0)) 6 → rD hc (.inr (s, 5)) k' = ((min u' v' : Nat) : Int) → rD hc (.inr (s, 6)) k' = ((max u' v' : Nat) : Int) → u' ≠ v' → rs_k hc hr s C F k' u' v' ∨ rs_k hc hr s C F k' v' u' := fun k' u' v' z1 z2 z3 z4 => by
      obtain ⟨u0, v0, Q0⟩ := Ds.2.2.2.2.2.2.2.2.2.1 k' (by omega)
      have p4 := Q0.2.2.2.1
      have p5 := Q0.2.2.2.2.1
      have t : (u0 = u' ∧ v0 = v') ∨ (u0 = v' ∧ v0 = u') := by omega
      rcases t with ⟨t1, t2⟩ | ⟨t1, t2⟩
      · rw [t1, t2] at Q0
        exact Or.inl Q0
      · rw [t1, t2] at Q0
        exact Or.inr Q0
    have swap : ∀ q, q < P → rl_m hr a2 a3 q → ∃ k', hc.2.1 (.inl 61) q = 4 ∧ rD hc (.inl 62) q = (k' : Nat) ∧ (k' : Int) < rD hc (.inr (s, 0)) 6 ∧ u ≠ v ∧ (rs_k hc hr s C F k' u v ∨ rs_k hc hr s C F k' v u) := fun q hq z => by
      obtain ⟨-, e2⟩ := E q hq
      rcases e2 with ⟨w1, w2, w3⟩ | ⟨w1, k', u', v', w2, w3, w4, w5, w6, w7, w8⟩
      · exfalso
        rcases z with z | z
        · have := congrArg Int32.toInt (z.2.symm.trans w3)
          rw [hy, k_m1] at this
          omega
        · have := congrArg Int32.toInt (z.2.2.symm.trans w3)
          rw [hx, k_m1] at this
          omega
      · have K := kk k' u' v' w3 w5 w6 w4.2.2
        unfold rD at w7 w8
        rcases z with z | z
        · have z1 := congrArg Int32.toInt z.1
          have z2 := congrArg Int32.toInt z.2
          have e1 : u' = u := by omega
          have e2 : v' = v := by omega
          rw [e1, e2] at K w4
          exact ⟨k', w1, w2, w3, w4.2.2, K⟩
        · have z1 := congrArg Int32.toInt z.2.1
          have z2 := congrArg Int32.toInt z.2.2
          have e1 : u' = v := by omega
          have e2 : v' = u := by omega
          rw [e1, e2] at K w4
          exact ⟨k', w1, w2, w3, fun t => w4.2.2 t.symm, K.symm⟩
    rcases rs_pb (a := a1) Ds n15 A2 (by omega) h1 hx hy hu hv with ⟨k, hk, ne, ek, Q, f1, Wp⟩ | ⟨ek, un⟩
    · rw [if_pos (show 0 ≤ f61 s a2 a3 hc from i_le k_0 ek (by omega)), f43_eq]
      have bq := rs_k.b Q
      have mr : ∀ q, q < P → (rl_m hr a2 a3 q ↔ hc.2.1 (.inl 61) q = 4 ∧ hc.2.1 (.inl 62) q = f61 s a2 a3 hc) := fun q hq => by
        refine ⟨fun z => ?_, fun z => ?_⟩
        · obtain ⟨k', w1, w2, w3, w4, K⟩ := swap q hq z
          have b' := rs_k.b K
          have e1 := bq.2.2.2.2.2.1
          have e2 := b'.2.2.2.2.2.1
          exact ⟨w1, i_eq w2 ek (by omega)⟩
        · obtain ⟨-, e2⟩ := E q hq
          rcases e2 with ⟨w1, w2, w3⟩ | ⟨w1, k', u', v', w2, w3, w4, w5, w6, w7, w8⟩
          · rw [w1] at z
            exact absurd z.1 (by decide +kernel)
          · have kq : k' = k := by
              unfold rD at w2
              rw [z.2, ek] at w2
              omega
            subst kq
            have l1 := bq.2.2.2.1
            have l2 := bq.2.2.2.2.1
            have t : (u' = u ∧ v' = v) ∨ (u' = v ∧ v' = u) := by omega
            rcases t with ⟨t1, t2⟩ | ⟨t1, t2⟩
            · exact Or.inl ⟨i_eq w7 hx (by omega), i_eq w8 hy (by omega)⟩
            · exact Or.inr ⟨n3, i_eq w7 hy (by omega), i_eq w8 hx (by omega)⟩
      rcases C43 (x := 4) (y := f61 s a2 a3 hc) hP P6 P 0 0 (by omega) rfl with ⟨q, q1, q2, q3, q4, q5⟩ | ⟨q1, q5⟩
      · rcases ref with ⟨-, -, -, -, r⟩ | ⟨r, -⟩
        · rw [q5, if_neg n10, r]
          exact ⟨rfl, ⟨P, L0⟩, W, LW⟩
        · exact absurd ((mr q q2).mpr ⟨q3, q4⟩) (r q q1 q2)
      · rcases ref with ⟨q, w1, w2, w3, w4⟩ | ⟨-, b, r1, r2⟩
        · exact absurd ((mr q w2).mp w3) (q1 q w1 w2)
        · rw [q5, if_pos rfl, r2, R239x hQ r1, if_neg n3, if_neg (i_ne hx hy (by omega)), if_pos (show f180 a1 a2 a3 hr ≠ 0 by rw [f1]; exact n10)]
          by_cases f : P = 6
          · rw [if_neg (i_nlt hP k_6 (by omega)), if_neg (fun z => z (i_eq hQ k_6 (by omega)))]
            exact ⟨rfl, ⟨P, L0⟩, W, LW⟩
          · rw [if_pos (i_lt hP k_6 (by omega)), if_pos (show hr.2.1 (.inl 105) 51 ≠ 6 from i_ne hQ k_6 (by omega)), C44 hP (by omega)]
            refine ⟨?_, ⟨P + 1, rl_add hs (by omega) hP hQ h1 E (fun g g' t1 t2 t3 t4 t5 t6 t7 => ⟨t3.trans t6.symm, Or.inr ⟨t1, k, u, v, ?_, ?_, ⟨by omega, by omega, ne⟩, ?_, ?_, ?_, ?_⟩⟩)⟩, W, LW⟩
            · show hc.2.1 (.inl 60) 1 + 1 = hr.2.1 (.inl 105) 51 + 1
              rw [pq]
            · unfold rD
              rw [t2]
              exact ek
            · unfold rD
              rw [t7 (s, 0) 6]
              unfold rD at n6
              omega
            · unfold rD
              rw [t7 (s, 5) k]
              exact bq.2.2.2.1
            · unfold rD
              rw [t7 (s, 6) k]
              exact bq.2.2.2.2.1
            · unfold rD
              rw [t4]
              exact hx
            · unfold rD
              rw [t5]
              exact hy
    · rw [ek, if_neg (show ¬ (0 : Int32) ≤ -1 by decide +kernel)]
      rcases ref with ⟨q, w1, w2, w3, w4⟩ | ⟨-, b, r1, r2⟩
      · exfalso
        obtain ⟨k', z1, z2, z3, z4, K⟩ := swap q w2 w3
        have b' := (rs_k.b K).2.2.2.2.2.1
        rcases un with un | ⟨-, un⟩
        · exact z4 un
        · have Wp := w179 h1 hx hy (show s ≤ 12 by omega) (show u < 6 by omega) (show v < 6 by omega)
          rw [f180_eq, i_cl Wp, if_neg (i_nle b' k_0 (by omega))] at un
          exact n10 un
      · rw [r2, R239x hQ r1, if_neg n3]
        rcases un with un | ⟨un, z⟩
        · rw [if_pos (i_eq hx hy (by omega))]
          exact ⟨rfl, ⟨P, L0⟩, W, LW⟩
        · rw [if_neg (i_ne hx hy (by omega)), if_neg (by rw [z]; exact fun t => t rfl)]
          exact ⟨rfl, ⟨P, L0⟩, W, LW⟩
theorem rl_30 (A : rs_A hc hr S N) (hs : s < S) (Ds : rs_D hc hr N s C n F) (h1 : a1.toInt = (s : Int)) (hx : a2.toInt = (u : Int)) (hu : u < C) (b3 : a3 = -1 ∨ ∃ v, v < C ∧ a3.toInt = (v : Int)) (L0 : rl_P hc hr S P) (LW : rl_W hc hr W) {rr : Int32 × mx_H} (er : rr = if f173 a4 1 3 = 0 then (-1, hr) else (if hr.2.1 (.inl 105) 51 ≤ 0 then g239_61 a1 a2 a3 a4 0 hr else (if a1 = hr.2.1 (.inl 105) 52 then g239_61 a1 a2 a3 a4 0 hr else (-1, hr)))) : (g120_30 a1 a2 a3 a4 s hc).1 = rr.1 ∧ rt_L (g120_30 a1 a2 a3 a4 s hc).2 rr.2 S := by
  have K := g120_30_eq a1 a2 a3 a4 s hc
  rw [w_ws, g120_40_eq] at K
  obtain ⟨l1, l2, l3, l4⟩ := id L0
  by_cases c : f173 a4 1 3 = 0
  · rw [if_neg (fun z => z c)] at K
    rw [if_pos c] at er
    rw [K, er]
    exact ⟨rfl, ⟨P, L0⟩, W, LW⟩
  · rw [if_pos c] at K
    rw [if_neg c] at er
    by_cases z : P = 0
    · rw [if_pos (i_le l2 k_0 (by omega))] at K
      rw [if_pos (i_le l3 k_0 (by omega))] at er
      rw [K, er]
      exact rl_core A hs Ds h1 hx hu b3 l1 l2 l3 L0 LW (fun j hj => by omega)
    · rw [if_neg (i_nle l2 k_0 (by omega))] at K
      rw [if_neg (i_nle l3 k_0 (by omega))] at er
      obtain ⟨t, t1, t2, t3, t4⟩ := l4 (by omega)
      by_cases es : t = s
      · subst es
        rw [if_pos (i_eq t2 h1 rfl)] at K
        rw [if_pos (i_eq h1 t3 rfl)] at er
        rw [K, er]
        exact rl_core A hs Ds h1 hx hu b3 l1 l2 l3 L0 LW t4
      · rw [if_neg (i_ne t2 h1 (by omega))] at K
        rw [if_neg (i_ne h1 t3 (by omega))] at er
        rw [K, er]
        exact ⟨rfl, ⟨P, L0⟩, W, LW⟩
theorem rs_plan (A : rs_A hc hr S N) (L : rt_L hc hr S) : (f120 a1 a2 a3 a4 hc).1 = (f239 a1 a2 a3 a4 hr).1 ∧ rt_L (f120 a1 a2 a3 a4 hc).2 (f239 a1 a2 a3 a4 hr).2 S := by
  obtain ⟨⟨P, L0⟩, W, LW⟩ := id L
  obtain ⟨A1, A2, A3, A4, A5, A6, A7, A8, A9, A10⟩ := id A
  have bad := g120_40_eq hc
  have fin : f120 a1 a2 a3 a4 hc = (-1, hc) → f239 a1 a2 a3 a4 hr = (-1, hr) → (f120 a1 a2 a3 a4 hc).1 = (f239 a1 a2 a3 a4 hr).1 ∧ rt_L (f120 a1 a2 a3 a4 hc).2 (f239 a1 a2 a3 a4 hr).2 S := fun q1 q2 => by
    rw [q1, q2]
    exact ⟨rfl, L⟩
  have K := f120_eq a1 a2 a3 a4 hc
  have T := f239_eq a1 a2 a3 a4 hr
  rcases C166 (a := a1) A with ⟨s, lt, h1, e1, e1'⟩ | ⟨e1, e1'⟩
  · obtain ⟨C, n, F, Ds⟩ := (A9 s lt).2
    rw [if_neg (by rw [e1']; exact n10)] at T
    have K' : f120 a1 a2 a3 a4 hc = if f164 s a2 hc = 0 then g120_40 hc else (if a3 = -1 then g120_30 a1 a2 a3 a4 s hc else (if f164 s a3 hc = 0 then g120_40 hc else g120_30 a1 a2 a3 a4 s hc)) := by
      rw [K, e1]
      rfl
    clear K
    rcases C164 (x := a2) h1 Ds.2.2.2.1 Ds.2.2.2.2.1 Ds.2.1 with ⟨u, hu, hx, g1, g1'⟩ | ⟨g1, g1'⟩
    · rw [if_neg (by rw [g1]; exact n10)] at K'
      rw [if_neg (by rw [g1']; exact n10)] at T
      by_cases m : a3 = -1
      · rw [if_pos m] at K' T
        rw [K']
        exact rl_30 A lt Ds h1 hx hu (Or.inl m) L0 LW T
      · rw [if_neg m] at K' T
        rcases C164 (x := a3) h1 Ds.2.2.2.1 Ds.2.2.2.2.1 Ds.2.1 with ⟨v, hv, hy, g2, g2'⟩ | ⟨g2, g2'⟩
        · rw [if_neg (by rw [g2]; exact n10)] at K'
          rw [if_neg (by rw [g2']; exact n10)] at T
          rw [K']
          exact rl_30 A lt Ds h1 hx hu (Or.inr ⟨v, hv, hy⟩) L0 LW T
        · rw [if_pos g2, bad] at K'
          rw [if_pos g2'] at T
          exact fin K' T
    · rw [if_pos g1, bad] at K'
      rw [if_pos g1'] at T
      exact fin K' T
  · rw [if_pos e1'] at T
    refine fin ?_ T
    rw [K, e1]
    exact bad
/-- wishes -/
theorem C45 (hP : rD h (.inl 60) 5 = W) (P6 : W ≤ 6) : ∀ (i j : Nat) (a3 : Int32), j + i = W → a3.toInt = (j : Int) → (∃ q, j ≤ q ∧ q < W ∧ h.2.1 (.inl 64) q = x ∧ h.2.1 (.inl 65) q = y ∧ g45_2 x y a3 h = 1) ∨ ((∀ q, j ≤ q → q < W → ¬ (h.2.1 (.inl 64) q = x ∧ h.2.1 (.inl 65) q = y)) ∧ g45_2 x y a3 h = 0)
  | 0, j, a3, e, ha => Or.inr ⟨fun q l1 l2 => by omega, by rw [g45_2_eq, if_pos (i_le hP ha (by omega))]⟩
  | i + 1, j, a3, e, ha => by
    have E := g45_2_eq x y a3 h
    rw [if_neg (i_nle hP ha (by omega)), i_cl ha] at E
    have nx := C45 hP P6 i (j + 1) (a3 + 1) (by omega) ((i_add ha k_1 (by omega) (by omega)).trans (by omega))
    by_cases m : h.2.1 (.inl 64) j = x ∧ h.2.1 (.inl 65) j = y
    · rw [if_neg (fun z => z m.1), if_neg (fun z => z m.2)] at E
      exact Or.inl ⟨j, Nat.le_refl _, by omega, m.1, m.2, E⟩
    · have E' : g45_2 x y a3 h = g45_2 x y (a3 + 1) h := by
        by_cases m1 : h.2.1 (.inl 64) j = x
        · rw [if_neg (fun z => z m1), if_pos (fun z => m ⟨m1, z⟩)] at E
          exact E
        · rw [if_pos m1] at E
          exact E
      rw [E']
      rcases nx with ⟨q, q1, q2, q3, q4, q5⟩ | ⟨q1, q2⟩
      · exact Or.inl ⟨q, by omega, q2, q3, q4, q5⟩
      · refine Or.inr ⟨fun q l1 l2 => ?_, q2⟩
        by_cases ej : q = j
        · rw [ej]
          exact m
        · exact q1 q (by omega) l2
def r_wi (h : mx_H) (W : Nat) (a1 a2 a3 : Int32) : mx_H := mx_uI (mx_uI (mx_uI (mx_uI h (.inl 143) W a1) (.inl 144) W a2) (.inl 145) W a3) (.inl 105) 56 (h.2.1 (.inl 105) 56 + 1)
def k_wi (h : mx_H) (W : Nat) (a1 a2 a3 : Int32) : mx_H := mx_uI (mx_uI (mx_uI (mx_uI h (.inl 64) W a1) (.inl 65) W a2) (.inl 66) W a3) (.inl 60) 5 (h.2.1 (.inl 60) 5 + 1)
theorem R240 (hP : rD h (.inl 105) 56 = W) (P6 : W ≤ 6) : ∀ (i j : Nat) (a4 : Int32), j + i = W → a4.toInt = (j : Int) → (∃ q, j ≤ q ∧ q < W ∧ h.2.1 (.inl 143) q = a1 ∧ h.2.1 (.inl 144) q = a2 ∧ g240_86 a1 a2 a3 a4 h = (-1, h)) ∨ ((∀ q, j ≤ q → q < W → ¬ (h.2.1 (.inl 143) q = a1 ∧ h.2.1 (.inl 144) q = a2)) ∧ g240_86 a1 a2 a3 a4 h = if h.2.1 (.inl 105) 56 ≠ 6 then (h.2.1 (.inl 105) 56 + 1, r_wi h W a1 a2 a3) else (-3, h))
  | 0, j, a4, e, ha => Or.inr ⟨fun q l1 l2 => by omega, by
      rw [g240_86_eq, if_pos (i_le hP ha (by omega))]
      have e : r_wi h W a1 a2 a3 = r_wi h (Int32.toNatClampNeg (h.2.1 (.inl 105) 56)) a1 a2 a3 := by rw [i_cl hP]
      rw [e]
      rfl⟩
  | i + 1, j, a4, e, ha => by
    have E := g240_86_eq a1 a2 a3 a4 h
    rw [if_neg (i_nle hP ha (by omega)), i_cl ha] at E
    have nx := R240 hP P6 i (j + 1) (a4 + 1) (by omega) ((i_add ha k_1 (by omega) (by omega)).trans (by omega))
    by_cases m : h.2.1 (.inl 143) j = a1 ∧ h.2.1 (.inl 144) j = a2
    · rw [if_neg (fun z => z m.1), if_neg (fun z => z m.2)] at E
      exact Or.inl ⟨j, Nat.le_refl _, by omega, m.1, m.2, E⟩
    · have E' : g240_86 a1 a2 a3 a4 h = g240_86 a1 a2 a3 (a4 + 1) h := by
        by_cases m1 : h.2.1 (.inl 143) j = a1
        · rw [if_neg (fun z => z m1), if_pos (fun z => m ⟨m1, z⟩)] at E
          exact E
        · rw [if_pos m1] at E
          exact E
      rw [E']
      rcases nx with ⟨q, q1, q2, q3, q4, q5⟩ | ⟨q1, q2⟩
      · exact Or.inl ⟨q, by omega, q2, q3, q4, q5⟩
      · refine Or.inr ⟨fun q l1 l2 => ?_, q2⟩
        by_cases ej : q = j
        · rw [ej]
          exact m
        · exact q1 q (by omega) l2
/-- tones are six at most -/
theorem C60b (C6 : C ≤ 6) (kc : rD h (.inr (s, 0)) 0 = C) : ∀ (j c m : Nat) (x y : Int32), c + j = C → m ≤ c → y.toInt = (c : Int) → x.toInt = (m : Int) → ∃ m', m' ≤ C ∧ (g60_4 s x y h).toInt = (m' : Int)
  | 0, c, m, x, y, e, hm, hy, hx => ⟨m, by omega, by rw [g60_4_eq, if_pos (i_le kc hy (by omega))]; exact hx⟩
  | j + 1, c, m, x, y, e, hm, hy, hx => by
    have hy1 : (y + 1).toInt = ((c + 1 : Nat) : Int) := (i_add hy k_1 (by omega) (by omega)).trans (by omega)
    rw [g60_4_eq, if_neg (i_nle kc hy (by omega))]
    split
    · exact C60b C6 kc j (c + 1) m x (y + 1) (by omega) (by omega) hy1 hx
    · exact C60b C6 kc j (c + 1) (m + 1) (x + 1) (y + 1) (by omega) (by omega) hy1 ((i_add hx k_1 (by omega) (by omega)).trans (by omega))
theorem rl_wish (L0 : rl_P hc hr S P) (LW : rl_W hc hr W) {rc rr : Int32 × mx_H} (K : rc = if f45 a1 a2 hc = 0 then (if hc.2.1 (.inl 60) 5 < 6 then ((f46 a1 a2 a3 hc).2.1 (.inl 60) 5, f46 a1 a2 a3 hc) else (-3, hc)) else (-1, hc)) (T : rr = g240_86 a1 a2 a3 0 hr) : rc.1 = rr.1 ∧ rt_L rc.2 rr.2 S := by
  obtain ⟨w1, w2, w3, w4⟩ := id LW
  rw [f45_eq] at K
  rcases C45 (x := a1) (y := a2) w2 w1 W 0 0 (by omega) rfl with ⟨q, q1, q2, q3, q4, q5⟩ | ⟨q1, q5⟩
  · rcases R240 (a1 := a1) (a2 := a2) (a3 := a3) w3 w1 W 0 0 (by omega) rfl with ⟨-, -, -, -, -, r⟩ | ⟨r, -⟩
    · rw [q5, if_neg n10] at K
      rw [K, T, r]
      exact ⟨rfl, ⟨P, L0⟩, W, LW⟩
    · exfalso
      obtain ⟨e1, e2, e3⟩ := w4 q q2
      exact r q q1 q2 ⟨e1.symm.trans q3, e2.symm.trans q4⟩
  · rcases R240 (a1 := a1) (a2 := a2) (a3 := a3) w3 w1 W 0 0 (by omega) rfl with ⟨q, r1, r2, r3, r4, r⟩ | ⟨-, r⟩
    · exfalso
      obtain ⟨e1, e2, e3⟩ := w4 q r2
      exact q1 q r1 r2 ⟨e1.trans r3, e2.trans r4⟩
    · rw [q5, if_pos rfl] at K
      rw [r] at T
      by_cases f : W = 6
      · rw [if_neg (i_nlt w2 k_6 (by omega))] at K
        rw [if_neg (fun z => z (i_eq w3 k_6 (by omega)))] at T
        rw [K, T]
        exact ⟨rfl, ⟨P, L0⟩, W, LW⟩
      · have C46 : f46 a1 a2 a3 hc = k_wi hc W a1 a2 a3 := by
          have e : k_wi hc W a1 a2 a3 = k_wi hc (Int32.toNatClampNeg (hc.2.1 (.inl 60) 5)) a1 a2 a3 := by rw [i_cl w2]
          rw [f46_eq, if_pos (i_lt w2 k_6 (by omega)), e]
          rfl
        rw [if_pos (i_lt w2 k_6 (by omega)), C46] at K
        rw [if_pos (show hr.2.1 (.inl 105) 56 ≠ 6 from i_ne w3 k_6 (by omega))] at T
        rw [K, T]
        have c1 : ∀ i, (k_wi hc W a1 a2 a3).2.1 (.inl 64) i = if i = W then a1 else hc.2.1 (.inl 64) i := fun i => (show (mx_uI hc (.inl 64) W a1).2.1 (.inl 64) i = _ from sh_i)
        have c2 : ∀ i, (k_wi hc W a1 a2 a3).2.1 (.inl 65) i = if i = W then a2 else hc.2.1 (.inl 65) i := fun i => (show (mx_uI (mx_uI hc (.inl 64) W a1) (.inl 65) W a2).2.1 (.inl 65) i = _ from sh_i)
        have c3 : ∀ i, (k_wi hc W a1 a2 a3).2.1 (.inl 66) i = if i = W then a3 else hc.2.1 (.inl 66) i := fun i => (show (mx_uI (mx_uI (mx_uI hc (.inl 64) W a1) (.inl 65) W a2) (.inl 66) W a3).2.1 (.inl 66) i = _ from sh_i)
        have d1 : ∀ i, (r_wi hr W a1 a2 a3).2.1 (.inl 143) i = if i = W then a1 else hr.2.1 (.inl 143) i := fun i => (show (mx_uI hr (.inl 143) W a1).2.1 (.inl 143) i = _ from sh_i)
        have d2 : ∀ i, (r_wi hr W a1 a2 a3).2.1 (.inl 144) i = if i = W then a2 else hr.2.1 (.inl 144) i := fun i => (show (mx_uI (mx_uI hr (.inl 143) W a1) (.inl 144) W a2).2.1 (.inl 144) i = _ from sh_i)
        have d3 : ∀ i, (r_wi hr W a1 a2 a3).2.1 (.inl 145) i = if i = W then a3 else hr.2.1 (.inl 145) i := fun i => (show (mx_uI (mx_uI (mx_uI hr (.inl 143) W a1) (.inl 144) W a2) (.inl 145) W a3).2.1 (.inl 145) i = _ from sh_i)
        refine ⟨?_, ⟨P, L0⟩, W + 1, by omega, ?_, ?_, fun j hj => ?_⟩
        · show hc.2.1 (.inl 60) 5 + 1 = hr.2.1 (.inl 105) 56 + 1
          rw [i_eq w2 w3 rfl]
        · show (hc.2.1 (.inl 60) 5 + 1).toInt = _
          exact (i_add w2 k_1 (by omega) (by omega)).trans (by omega)
        · show (hr.2.1 (.inl 105) 56 + 1).toInt = _
          exact (i_add w3 k_1 (by omega) (by omega)).trans (by omega)
        · show (k_wi hc W a1 a2 a3).2.1 (.inl 64) j = (r_wi hr W a1 a2 a3).2.1 (.inl 143) j ∧ (k_wi hc W a1 a2 a3).2.1 (.inl 65) j = (r_wi hr W a1 a2 a3).2.1 (.inl 144) j ∧ (k_wi hc W a1 a2 a3).2.1 (.inl 66) j = (r_wi hr W a1 a2 a3).2.1 (.inl 145) j
          rw [c1, c2, c3, d1, d2, d3]
          by_cases e : j = W
          · rw [if_pos e, if_pos e, if_pos e, if_pos e, if_pos e, if_pos e]
            exact ⟨rfl, rfl, rfl⟩
          · rw [if_neg e, if_neg e, if_neg e, if_neg e, if_neg e, if_neg e]
            exact w4 j (by omega)
theorem rs_wish (A : rs_A hc hr S N) (L : rt_L hc hr S) : (f121 a1 a2 a3 hc).1 = (f240 a1 a2 a3 hr).1 ∧ rt_L (f121 a1 a2 a3 hc).2 (f240 a1 a2 a3 hr).2 S := by
  obtain ⟨⟨P, L0⟩, W, LW⟩ := id L
  obtain ⟨l1, l2, l3, l4⟩ := id L0
  obtain ⟨A1, A2, A3, A4, A5, A6, A7, A8, A9, A10⟩ := id A
  have fin : ∀ {x : Int32}, f121 a1 a2 a3 hc = (x, hc) → f240 a1 a2 a3 hr = (x, hr) → (f121 a1 a2 a3 hc).1 = (f240 a1 a2 a3 hr).1 ∧ rt_L (f121 a1 a2 a3 hc).2 (f240 a1 a2 a3 hr).2 S := fun q1 q2 => by
    rw [q1, q2]
    exact ⟨rfl, L⟩
  have K := f121_eq a1 a2 a3 hc
  have T := f240_eq a1 a2 a3 hr
  rw [w_ws, w_ws, w_ws] at K
  by_cases z : P = 0
  · have no : f167 hc = none := by rw [f167_eq, if_pos (i_le l2 k_0 (by omega))]
    rw [if_neg (fun t => t (i_eq l3 k_0 (by omega)))] at T
    rw [no] at K
    by_cases c1 : f173 a1 0 5 = 0
    · rw [if_pos c1] at K T
      exact fin K T
    · rw [if_neg c1] at K T
      by_cases c2 : f173 a2 1 9 = 0
      · rw [if_pos c2] at K T
        exact fin K T
      · rw [if_neg c2] at K T
        by_cases c3 : f173 a3 0 99 = 0
        · rw [if_neg (fun t => t c3)] at K
          rw [if_pos c3] at T
          exact fin K T
        · rw [if_pos c3] at K
          rw [if_neg c3] at T
          exact fin K T
  · obtain ⟨s, t1, t2, t3, t4⟩ := l4 (by omega)
    obtain ⟨C, n, F, Ds⟩ := (A9 s t1).2
    have C6 := Ds.2.1
    have pl : f167 hc = some s := by
      rw [f167_eq, if_neg (i_nle l2 k_0 (by omega))]
      rcases C166 (a := hc.2.1 (.inl 60) 0) A with ⟨s', lt, h1, e1, -⟩ | ⟨-, e1'⟩
      · unfold rD at t2
        rw [e1, show s' = s by omega]
        rfl
      · exfalso
        rw [f177_eq, w173_1 t2 k_0 (i_sub A4 k_1 (by omega) (by omega)) (by omega)] at e1'
        exact n10 e1'
    have tn : f60 s hc = f195 (hr.2.1 (.inl 105) 52) hr := aw_tones Ds (by omega) t3
    obtain ⟨m, m1, m2⟩ := C60b C6 Ds.2.2.2.1 C 0 0 0 0 (by omega) (by omega) rfl rfl
    rw [← f60_eq] at m2
    rw [if_pos (show hr.2.1 (.inl 105) 51 ≠ 0 from i_ne l3 k_0 (by omega)), ← tn] at T
    rw [pl] at K
    have K' : f121 a1 a2 a3 hc = if f173 a1 0 5 = 0 then (-1, hc) else (if f173 a2 1 9 = 0 then (-1, hc) else (if f173 a3 0 99 ≠ 0 then (if f60 s hc ≤ a1 then (-1, hc) else (if f45 a1 a2 hc = 0 then (if hc.2.1 (.inl 60) 5 < 6 then ((f46 a1 a2 a3 hc).2.1 (.inl 60) 5, f46 a1 a2 a3 hc) else (-3, hc)) else (-1, hc))) else (-1, hc))) := K
    clear K
    have sm := i_sub m2 k_1 (by omega) (by omega)
    by_cases c1 : 0 ≤ a1.toInt ∧ a1.toInt ≤ (m : Int) - 1
    · rw [if_neg (by rw [w173_1 rfl k_0 k_5 (by omega)]; exact n10)] at K'
      rw [if_neg (by rw [w173_1 rfl k_0 sm c1]; exact n10)] at T
      by_cases c2 : f173 a2 1 9 = 0
      · rw [if_pos c2] at K' T
        exact fin K' T
      · rw [if_neg c2] at K' T
        by_cases c3 : f173 a3 0 99 ≠ 0
        · rw [if_pos c3] at K' T
          rw [if_neg (i_nle m2 rfl (by omega))] at K'
          exact rl_wish L0 LW K' T
        · rw [if_neg c3] at K' T
          exact fin K' T
    · rw [if_pos (w173_0 rfl k_0 sm c1)] at T
      refine fin ?_ T
      by_cases d1 : f173 a1 0 5 = 0
      · rw [K', if_pos d1]
      · rw [if_neg d1] at K'
        by_cases c2 : f173 a2 1 9 = 0
        · rw [K', if_pos c2]
        · rw [if_neg c2] at K'
          by_cases c3 : f173 a3 0 99 ≠ 0
          · have b5 : 0 ≤ a1.toInt ∧ a1.toInt ≤ 5 := Classical.byContradiction fun q => d1 (w173_0 rfl k_0 k_5 q)
            rw [K', if_pos c3, if_pos (i_le m2 rfl (by omega))]
          · rw [K', if_neg c3]
theorem rs_forget (L : rt_L hc hr S) : (f124 hc).1 = (f247 hr).1 ∧ rt_L (f124 hc).2 (f247 hr).2 S := by
  obtain ⟨⟨P, l1, l2, l3, l4⟩, -⟩ := L
  rw [f124_eq, f247_eq]
  exact ⟨i_eq l2 l3 rfl, ⟨0, by omega, rfl, rfl, fun z => absurd z (Nat.lt_irrefl 0)⟩, 0, by omega, rfl, rfl, fun j hj => absurd hj (Nat.not_lt_zero _)⟩
end RTI
/-! ===== the relation over one heap; what calls leave alone ===== -/
def rt_Ml : Nat := 577961651229498020925928990410226780971905695431867431405676572619336028297247402772107701451999055439724544
def rt_Ms : Nat := 230871130056998901634447500586778987139139097288067773080429506742223632553312891682813532754167263527546380091392
def rt_Mc : Nat := 2036179309202222059277112868808520882994142222070889681478192252799531652623569515727932434055418629478631237965242742302943903748
def rt_Mr : Nat := 2174126686437554872598746616358304969449041296403156896143154441128927007364442772585577323609219661824
theorem rt_bit {m M r : Nat} (hm : m &&& M = 0) (hr : M.testBit r = true) : m.testBit r = false := by
  have e := congrArg (fun x => Nat.testBit x r) hm
  simp only [Nat.testBit_and, hr, Bool.and_true, Nat.zero_testBit] at e
  exact e
/-- both sides, each read in its own heap -/
def rt_P (hc hr : mx_H) (S N : Nat) : Prop := rs_A hc hr S N ∧ (S ≤ 11 → rs_T hc hr) ∧ ∃ V D U, rh_H hc hr S V D U
/-- what the shelves hold: nothing, a body, a row -/
def rt_S (hc hr : mx_H) (N : Nat) : Prop := ∀ s, s < 6 → (hc.2.1 (.inl 95) s = -2 ∧ hr.2.1 (.inl 163) s = -1) ∨ (hc.2.1 (.inl 95) s = -1 ∧ ∃ b : Nat, b < N ∧ rD hc (.inl 97) s = b ∧ rD hr (.inl 163) s = b) ∨ ∃ t : Nat, t ≤ 4 ∧ rD hc (.inl 95) s = t ∧ rD hr (.inl 163) s = -2 - (t : Int) ∧ hc.2.1 (.inl 96) s = hr.2.1 (.inl 164) s
def rt_R (h : mx_H) : Prop := ∃ S N, rt_P h h S N ∧ rt_S h h N ∧ rt_L h h S
section RTA
variable {h h' hc hr hc' hr' h2 h4 : mx_H} {S N m m1 m2 : Nat}
theorem rt_ec (hm : m &&& rt_Mc = 0) (e : sf_E m h h') {s : Nat} : rs_ec s h h' := fun o i ho => by
  refine e.1 (.inr (s, o)) i (rt_bit hm ?_)
  rcases (show o = 0 ∨ o = 1 ∨ o = 2 ∨ o = 3 ∨ o = 4 ∨ o = 5 ∨ o = 6 ∨ o = 7 ∨ o = 8 by omega) with t | t | t | t | t | t | t | t | t
  · subst t
    show rt_Mc.testBit (379 + i) = true
    exact (by decide +kernel : ∀ i, i < 13 → rt_Mc.testBit (379 + i) = true) i (ho.2 rfl)
  · subst t
    exact (show rt_Mc.testBit 392 = true by decide +kernel)
  · subst t
    exact (show rt_Mc.testBit 393 = true by decide +kernel)
  · subst t
    exact (show rt_Mc.testBit 394 = true by decide +kernel)
  · subst t
    exact (show rt_Mc.testBit 395 = true by decide +kernel)
  · subst t
    exact (show rt_Mc.testBit 396 = true by decide +kernel)
  · subst t
    exact (show rt_Mc.testBit 397 = true by decide +kernel)
  · subst t
    exact (show rt_Mc.testBit 398 = true by decide +kernel)
  · subst t
    exact (show rt_Mc.testBit 399 = true by decide +kernel)
theorem rt_u (hm : m &&& rt_Mc = 0) (e : sf_E m h h') : rs_u S h h' := ⟨e.2.2 (rt_bit hm (by decide +kernel)), e.2.1 (.inl 0) 3 (rt_bit (r := 425) hm (by decide +kernel)), fun i => e.2.1 (.inl 3) i (rt_bit (r := 424) hm (by decide +kernel)), fun i => e.2.1 (.inl 92) i (rt_bit (r := 427) hm (by decide +kernel)), e.1 (.inl 0) 2 (rt_bit (r := 2) hm (by decide +kernel)), e.1 (.inl 90) 0 (rt_bit (r := 202) hm (by decide +kernel)), fun i => e.1 (.inl 91) i (rt_bit (r := 207) hm (by decide +kernel)), fun _ _ => rt_ec hm e⟩
theorem rt_v (hm : m &&& rt_Mr = 0) (e : sf_El m h h') : rs_v S h h' := ⟨e 105 1 (rt_bit (r := 225) hm (by decide +kernel)), e 105 12 (rt_bit (r := 236) hm (by decide +kernel)), fun i => e 116 i (rt_bit (r := 328) hm (by decide +kernel)), fun i => e 117 i (rt_bit (r := 329) hm (by decide +kernel)), fun s _ k i w => by
  have : k = 106 ∨ k = 107 ∨ k = 108 ∨ k = 109 ∨ k = 110 ∨ k = 111 ∨ k = 112 ∨ k = 113 ∨ k = 114 ∨ k = 115 := by
    unfold rs_w at w
    omega
  rcases this with t | t | t | t | t | t | t | t | t | t
  · subst t
    exact e 106 i (rt_bit (r := 318) hm (by decide +kernel))
  · subst t
    exact e 107 i (rt_bit (r := 319) hm (by decide +kernel))
  · subst t
    exact e 108 i (rt_bit (r := 320) hm (by decide +kernel))
  · subst t
    exact e 109 i (rt_bit (r := 321) hm (by decide +kernel))
  · subst t
    exact e 110 i (rt_bit (r := 322) hm (by decide +kernel))
  · subst t
    exact e 111 i (rt_bit (r := 323) hm (by decide +kernel))
  · subst t
    exact e 112 i (rt_bit (r := 324) hm (by decide +kernel))
  · subst t
    exact e 113 i (rt_bit (r := 325) hm (by decide +kernel))
  · subst t
    exact e 114 i (rt_bit (r := 326) hm (by decide +kernel))
  · subst t
    exact e 115 i (rt_bit (r := 327) hm (by decide +kernel))⟩
/-- the tapes -/
theorem rt_T (b1 : m1.testBit 15 = false) (b2 : m1.testBit 17 = false) (e1 : sf_El m1 hc hc') (b3 : m2.testBit 240 = false) (b4 : m2.testBit 330 = false) (e2 : sf_El m2 hr hr') (T : rs_T hc hr) : rs_T hc' hr' := by
  obtain ⟨L, l, t1, t2, t3⟩ := T
  refine ⟨L, l, ?_, ?_, fun i hi => ?_⟩
  · unfold rD
    rw [e1 1 1 b1]
    exact t1
  · unfold rD
    rw [e2 105 16 b3]
    exact t2
  · unfold rD
    rw [e1 2 i b2, e2 118 i b4]
    exact t3 i hi
theorem sf_El0 (m : Nat) (h : mx_H) : sf_El m h h := fun _ _ _ => rfl
theorem rt_hr (hm : m &&& rt_Mr = 0) (e : sf_El m h h') (q i : Nat) (l1 : 123 ≤ q) (l2 : q ≤ 127) : h'.2.1 (.inl q) i = h.2.1 (.inl q) i := by
  rcases (show q = 123 ∨ q = 124 ∨ q = 125 ∨ q = 126 ∨ q = 127 by omega) with t | t | t | t | t
  · subst t
    exact e 123 i (rt_bit (r := 335) hm (by decide +kernel))
  · subst t
    exact e 124 i (rt_bit (r := 336) hm (by decide +kernel))
  · subst t
    exact e 125 i (rt_bit (r := 337) hm (by decide +kernel))
  · subst t
    exact e 126 i (rt_bit (r := 338) hm (by decide +kernel))
  · subst t
    exact e 127 i (rt_bit (r := 339) hm (by decide +kernel))
theorem rt_hc (b0 : m.testBit 190 = false) (b1 : m.testBit 191 = false) (b6 : m.testBit 198 = false) (b7 : m.testBit 199 = false) (b8 : m.testBit 200 = false) (b9 : m.testBit 201 = false) (e : sf_El m h h') (q i : Nat) (l1 : 84 ≤ q) (l2 : q ≤ 89) (l3 : q = 84 → i = 0 ∨ i = 1) (l4 : q ≠ 85) : h'.2.1 (.inl q) i = h.2.1 (.inl q) i := by
  rcases (show q = 84 ∨ q = 86 ∨ q = 87 ∨ q = 88 ∨ q = 89 by omega) with t | t | t | t | t
  · subst t
    rcases l3 rfl with t | t
    · subst t
      exact e 84 0 b0
    · subst t
      exact e 84 1 b1
  · subst t
    exact e 86 i b6
  · subst t
    exact e 87 i b7
  · subst t
    exact e 88 i b8
  · subst t
    exact e 89 i b9
/-- the reference's heap may be another -/
theorem rt_P.r (hm : m &&& rt_Mr = 0) (e : sf_El m h h') (P : rt_P hc h S N) : rt_P hc h' S N := by
  obtain ⟨A, T, V, D, U, H⟩ := P
  exact ⟨A.g rs_u.refl (rt_v hm e), fun q => rt_T (m1 := 0) rfl rfl (sf_El0 0 hc) (rt_bit (r := 240) hm (by decide +kernel)) (rt_bit (r := 330) hm (by decide +kernel)) e (T q), (rh_H.new H (Nat.le_refl _) (fun _ _ _ _ _ => rfl) (fun _ => rfl) (fun _ _ _ _ _ _ => rfl) (fun q i l1 l2 => rt_hr hm e q i l1 l2) (e 105 24 (rt_bit (r := 248) hm (by decide +kernel))) (e 105 25 (rt_bit (r := 249) hm (by decide +kernel)))).imp (fun V' H' => ⟨D, U, H'⟩)⟩
/-- the class's heap may be another -/
theorem rt_P.c (hm : m &&& rt_Mc = 0) (e : sf_E m h h') (P : rt_P h hr S N) : rt_P h' hr S N := by
  obtain ⟨A, T, V, D, U, H⟩ := P
  refine ⟨A.g (rt_u hm e) rs_v.refl, fun q => rt_T (m2 := 0) (rt_bit (r := 15) hm (by decide +kernel)) (rt_bit (r := 17) hm (by decide +kernel)) e.l rfl rfl (sf_El0 0 hr) (T q), (rh_H.new H (Nat.le_refl _) (fun _ _ => rt_ec hm e) (fun i => e.2.1 (.inl 85) i (rt_bit (r := 426) hm (by decide +kernel))) (fun q i l1 l2 l3 l4 => ?_) (fun _ _ _ _ => rfl) rfl rfl).imp (fun V' H' => ⟨D, U, H'⟩)⟩
  exact rt_hc (rt_bit (r := 190) hm (by decide +kernel)) (rt_bit (r := 191) hm (by decide +kernel)) (rt_bit (r := 198) hm (by decide +kernel)) (rt_bit (r := 199) hm (by decide +kernel)) (rt_bit (r := 200) hm (by decide +kernel)) (rt_bit (r := 201) hm (by decide +kernel)) e.l q i l1 l2 l3 l4
theorem rt_Sf {N' : Nat} (c1 : m1 &&& rt_Ms = 0) (e1 : sf_El m1 hc hc') (c2 : m2 &&& rt_Ms = 0) (e2 : sf_El m2 hr hr') (NN : N ≤ N') (K : rt_S hc hr N) : rt_S hc' hr' N' := fun s hs => by
  unfold rD
  rw [e1 95 s (rt_bit (r := 214) c1 (by decide +kernel)), e1 96 s (rt_bit (r := 215) c1 (by decide +kernel)), e1 97 s (rt_bit (r := 216) c1 (by decide +kernel)), e2 163 s (rt_bit (r := 375) c2 (by decide +kernel)), e2 164 s (rt_bit (r := 376) c2 (by decide +kernel))]
  rcases K s hs with q | ⟨q1, b, q2, q3, q4⟩ | q
  · exact Or.inl q
  · exact Or.inr (Or.inl ⟨q1, b, by omega, q3, q4⟩)
  · exact Or.inr (Or.inr q)
theorem rt_Lf {S' : Nat} (c1 : m1 &&& rt_Ml = 0) (e1 : sf_El m1 hc hc') (c2 : m2 &&& rt_Ml = 0) (e2 : sf_El m2 hr hr') (SS : S ≤ S') (sc : rh_s S hc hc') (L : rt_L hc hr S) : rt_L hc' hr' S' := by
  obtain ⟨⟨P, L0⟩, W, LW⟩ := L
  refine ⟨⟨P, L0.fx SS (fun q i l1 l2 l3 => ?_) (fun q i l1 l2 => ?_) (e2 105 51 (rt_bit (r := 275) c2 (by decide +kernel))) (e2 105 52 (rt_bit (r := 276) c2 (by decide +kernel))) sc⟩, W, LW.fx (e1 60 5 (rt_bit (r := 141) c1 (by decide +kernel))) (fun q i l1 l2 => ?_) (fun q i l1 l2 => ?_) (e2 105 56 (rt_bit (r := 280) c2 (by decide +kernel)))⟩
  · rcases (show q = 60 ∨ q = 61 ∨ q = 62 ∨ q = 63 by omega) with t | t | t | t
    · subst t
      rcases l3 rfl with t | t
      · subst t
        exact e1 60 0 (rt_bit (r := 136) c1 (by decide +kernel))
      · subst t
        exact e1 60 1 (rt_bit (r := 137) c1 (by decide +kernel))
    · subst t
      exact e1 61 i (rt_bit (r := 149) c1 (by decide +kernel))
    · subst t
      exact e1 62 i (rt_bit (r := 150) c1 (by decide +kernel))
    · subst t
      exact e1 63 i (rt_bit (r := 151) c1 (by decide +kernel))
  · rcases (show q = 140 ∨ q = 141 ∨ q = 142 by omega) with t | t | t
    · subst t
      exact e2 140 i (rt_bit (r := 352) c2 (by decide +kernel))
    · subst t
      exact e2 141 i (rt_bit (r := 353) c2 (by decide +kernel))
    · subst t
      exact e2 142 i (rt_bit (r := 354) c2 (by decide +kernel))
  · rcases (show q = 64 ∨ q = 65 ∨ q = 66 by omega) with t | t | t
    · subst t
      exact e1 64 i (rt_bit (r := 152) c1 (by decide +kernel))
    · subst t
      exact e1 65 i (rt_bit (r := 153) c1 (by decide +kernel))
    · subst t
      exact e1 66 i (rt_bit (r := 154) c1 (by decide +kernel))
  · rcases (show q = 143 ∨ q = 144 ∨ q = 145 by omega) with t | t | t
    · subst t
      exact e2 143 i (rt_bit (r := 355) c2 (by decide +kernel))
    · subst t
      exact e2 144 i (rt_bit (r := 356) c2 (by decide +kernel))
    · subst t
      exact e2 145 i (rt_bit (r := 357) c2 (by decide +kernel))
theorem rt_Lr (c2 : m2 &&& (2 ^ 275 + 2 ^ 276 + 2 ^ 280 + 2 ^ 352 + 2 ^ 353 + 2 ^ 354 + 2 ^ 355 + 2 ^ 356 + 2 ^ 357) = 0) (e2 : sf_El m2 hr hr') (L : rt_L hc hr S) : rt_L hc hr' S := by
  obtain ⟨⟨P, L0⟩, W, LW⟩ := L
  refine ⟨⟨P, L0.fx (Nat.le_refl _) (fun _ _ _ _ _ => rfl) (fun q i l1 l2 => ?_) (e2 105 51 (rt_bit (r := 275) c2 (by decide +kernel))) (e2 105 52 (rt_bit (r := 276) c2 (by decide +kernel))) (fun _ _ => ⟨rfl, fun _ => ⟨rfl, rfl⟩⟩)⟩, W, LW.fx rfl (fun _ _ _ _ => rfl) (fun q i l1 l2 => ?_) (e2 105 56 (rt_bit (r := 280) c2 (by decide +kernel)))⟩
  · rcases (show q = 140 ∨ q = 141 ∨ q = 142 by omega) with t | t | t
    · subst t
      exact e2 140 i (rt_bit (r := 352) c2 (by decide +kernel))
    · subst t
      exact e2 141 i (rt_bit (r := 353) c2 (by decide +kernel))
    · subst t
      exact e2 142 i (rt_bit (r := 354) c2 (by decide +kernel))
  · rcases (show q = 143 ∨ q = 144 ∨ q = 145 by omega) with t | t | t
    · subst t
      exact e2 143 i (rt_bit (r := 355) c2 (by decide +kernel))
    · subst t
      exact e2 144 i (rt_bit (r := 356) c2 (by decide +kernel))
    · subst t
      exact e2 145 i (rt_bit (r := 357) c2 (by decide +kernel))
theorem rt_Lc (c1 : m1 &&& (2 ^ 136 + 2 ^ 137 + 2 ^ 141 + 2 ^ 149 + 2 ^ 150 + 2 ^ 151 + 2 ^ 152 + 2 ^ 153 + 2 ^ 154) = 0) (e1 : sf_El m1 hc hc') (sc : rh_s S hc hc') (L : rt_L hc hr S) : rt_L hc' hr S := by
  obtain ⟨⟨P, L0⟩, W, LW⟩ := L
  refine ⟨⟨P, L0.fx (Nat.le_refl _) (fun q i l1 l2 l3 => ?_) (fun _ _ _ _ => rfl) rfl rfl sc⟩, W, LW.fx (e1 60 5 (rt_bit (r := 141) c1 (by decide +kernel))) (fun q i l1 l2 => ?_) (fun _ _ _ _ => rfl) rfl⟩
  · rcases (show q = 60 ∨ q = 61 ∨ q = 62 ∨ q = 63 by omega) with t | t | t | t
    · subst t
      rcases l3 rfl with t | t
      · subst t
        exact e1 60 0 (rt_bit (r := 136) c1 (by decide +kernel))
      · subst t
        exact e1 60 1 (rt_bit (r := 137) c1 (by decide +kernel))
    · subst t
      exact e1 61 i (rt_bit (r := 149) c1 (by decide +kernel))
    · subst t
      exact e1 62 i (rt_bit (r := 150) c1 (by decide +kernel))
    · subst t
      exact e1 63 i (rt_bit (r := 151) c1 (by decide +kernel))
  · rcases (show q = 64 ∨ q = 65 ∨ q = 66 by omega) with t | t | t
    · subst t
      exact e1 64 i (rt_bit (r := 152) c1 (by decide +kernel))
    · subst t
      exact e1 65 i (rt_bit (r := 153) c1 (by decide +kernel))
    · subst t
      exact e1 66 i (rt_bit (r := 154) c1 (by decide +kernel))
theorem rs_ec_s (e : ∀ s, s < S → rs_ec s h h') : rh_s S h h' := fun s hs => ⟨e s hs 0 6 (by omega), fun k => ⟨e s hs 5 k (by omega), e s hs 6 k (by omega)⟩⟩
/-- a call that touches nothing of it -/
theorem rt_f (hm : m &&& rt_Mc = 0) (hn : m &&& rt_Mr = 0) (hs : m &&& rt_Ms = 0) (hl : m &&& rt_Ml = 0) (e : sf_E m h h') (R : rt_R h) : rt_R h' := by
  obtain ⟨S, N, P, K, L⟩ := R
  exact ⟨S, N, (P.c hm e).r hn e.l, rt_Sf hs e.l hs e.l (Nat.le_refl _) K, rt_Lf hl e.l hl e.l (Nat.le_refl _) (rs_ec_s (fun _ _ => rt_ec hm e)) L⟩
/-- the relation goes through a call on both sides -/
theorem rt_go (R : rt_R h) (b1 : m1 &&& rt_Mr = 0) (e1 : sf_El m1 h h2) (b2 : m2 &&& rt_Mc = 0) (e2 : sf_E m2 h2 h4) (c1 : m1 &&& rt_Ms = 0) (c2 : m2 &&& rt_Ms = 0) (d1 : m1 &&& rt_Ml = 0) (d2 : m2 &&& rt_Ml = 0) (st : ∀ S N, rt_P h h2 S N → ∃ S' N', (S ≤ S' ∧ N ≤ N' ∧ rh_s S h h2) ∧ rt_P h2 h4 S' N') : rt_R h4 := by
  obtain ⟨S, N, P, K, L⟩ := R
  obtain ⟨S', N', ⟨SS, NN, sc⟩, P'⟩ := st S N (P.r b1 e1)
  exact ⟨S', N', P'.c b2 e2, rt_Sf c2 e2.l c2 e2.l NN (rt_Sf c1 e1 c1 e1 (Nat.le_refl _) K), rt_Lf d2 e2.l d2 e2.l (Nat.le_refl _) (rs_ec_s (fun _ _ => rt_ec b2 e2)) (rt_Lf d1 e1 d1 e1 SS sc L)⟩
/-- the shelves go through a call on both sides -/
theorem rt_goS (R : rt_R h) (b1 : m1 &&& rt_Mc = 0) (b2 : m1 &&& rt_Mr = 0) (e1 : sf_E m1 h h2) (b3 : m2 &&& rt_Mc = 0) (b4 : m2 &&& rt_Mr = 0) (e2 : sf_E m2 h2 h4) (c1 : m1 &&& (2 ^ 375 + 2 ^ 376) = 0) (c2 : m2 &&& (2 ^ 214 + 2 ^ 215 + 2 ^ 216) = 0) (d1 : m1 &&& rt_Ml = 0) (d2 : m2 &&& rt_Ml = 0) (st : ∀ S N, rs_A h h2 S N → rt_S h h2 N → rt_S h2 h4 N) : rt_R h4 := by
  obtain ⟨S, N, P, K, L⟩ := R
  have K1 : rt_S h h2 N := fun s hs => by
    unfold rD
    rw [e1.l 163 s (rt_bit (r := 375) c1 (by decide +kernel)), e1.l 164 s (rt_bit (r := 376) c1 (by decide +kernel))]
    exact K s hs
  have K2 := st S N (P.r b2 e1.l).1 K1
  refine ⟨S, N, (((P.c b1 e1).r b2 e1.l).c b3 e2).r b4 e2.l, fun s hs => ?_, rt_Lf d2 e2.l d2 e2.l (Nat.le_refl _) (rs_ec_s (fun _ _ => rt_ec b3 e2)) (rt_Lf d1 e1.l d1 e1.l (Nat.le_refl _) (rs_ec_s (fun _ _ => rt_ec b1 e1)) L)⟩
  unfold rD
  rw [e2.l 95 s (rt_bit (r := 214) c2 (by decide +kernel)), e2.l 96 s (rt_bit (r := 215) c2 (by decide +kernel)), e2.l 97 s (rt_bit (r := 216) c2 (by decide +kernel))]
  exact K2 s hs
/-- the lists go through a call on both sides -/
theorem rt_goL (R : rt_R h) (b1 : m1 &&& rt_Mc = 0) (b2 : m1 &&& rt_Mr = 0) (e1 : sf_E m1 h h2) (b3 : m2 &&& rt_Mc = 0) (b4 : m2 &&& rt_Mr = 0) (e2 : sf_E m2 h2 h4) (c1 : m1 &&& rt_Ms = 0) (c2 : m2 &&& rt_Ms = 0) (d1 : m1 &&& (2 ^ 275 + 2 ^ 276 + 2 ^ 280 + 2 ^ 352 + 2 ^ 353 + 2 ^ 354 + 2 ^ 355 + 2 ^ 356 + 2 ^ 357) = 0) (d2 : m2 &&& (2 ^ 136 + 2 ^ 137 + 2 ^ 141 + 2 ^ 149 + 2 ^ 150 + 2 ^ 151 + 2 ^ 152 + 2 ^ 153 + 2 ^ 154) = 0) (st : ∀ S N, rs_A h h2 S N → rt_L h h2 S → rt_L h2 h4 S) : rt_R h4 := by
  obtain ⟨S, N, P, K, L⟩ := R
  have z0 : (0 : Nat) &&& rt_Ml = 0 := by decide +kernel
  have L1 : rt_L h h2 S := rt_Lr d1 e1.l L
  have L2 := st S N (P.r b2 e1.l).1 L1
  exact ⟨S, N, (((P.c b1 e1).r b2 e1.l).c b3 e2).r b4 e2.l, rt_Sf c2 e2.l c2 e2.l (Nat.le_refl _) (rt_Sf c1 e1.l c1 e1.l (Nat.le_refl _) K), rt_Lc d2 e2.l (rs_ec_s (fun _ _ => rt_ec b3 e2)) L2⟩
end RTA
/-! ===== the calls that touch it ===== -/
section RTB
variable {h hc hr h2 h4 : mx_H} {S N m1 m2 : Nat} {a1 a2 a3 a4 : Int32}
/-- what the bounds say of the reference's heap -/
theorem sf_b (hI : sf_I h) (a : mx_A) (i : Nat) : (sf_bd a i).1 ≤ (h.2.1 a i).toInt ∧ (h.2.1 a i).toInt ≤ (sf_bd a i).2 := hI.1 a i
theorem sf_110 (hI : sf_I h) (i : Nat) : h.2.1 (.inl 110) i = 0 ∨ h.2.1 (.inl 110) i = 1 := by
  obtain ⟨b1, b2⟩ := sf_rd (lo := 0) (hi := 1) (r := 322) hI (.inl 110) i rfl (by decide +kernel)
  rcases (show (h.2.1 (.inl 110) i).toInt = 0 ∨ (h.2.1 (.inl 110) i).toInt = 1 by omega) with t | t
  · exact Or.inl (i_eq t k_0 rfl)
  · exact Or.inr (i_eq t k_1 rfl)
theorem sf_113 (hI : sf_I h) (i : Nat) : 0 ≤ rD h (.inl 113) i := (sf_rd (lo := 0) (hi := 201) (r := 325) hI (.inl 113) i rfl (by decide +kernel)).1
theorem sf_9 (hI : sf_I h) : rb_9 h := fun i => ⟨sf_rd (lo := 0) (hi := 9) (r := 323) hI (.inl 111) i rfl (by decide +kernel), sf_rd (lo := 0) (hi := 9) (r := 324) hI (.inl 112) i rfl (by decide +kernel)⟩
theorem sf_jfe {a : mx_A} {i r : Nat} (e : sf_rg a i = r) (hr : sf_jr r = true) : sf_jf h a i = rD h a i := by
  unfold sf_jf
  rw [e, hr]
  rfl
theorem sf_k2 (hI : sf_I h) (e : rD h (.inl 105) 1 = S) : ∀ s c : Nat, s < S → (c : Int) < rD h (.inl 106) s → 1 ≤ rD h (.inl 107) (6 * s + c) := fun s c hs hc => by
  have k := hI.2.2.2.2.1 s c
  have e1 : sf_jf h (.inl 105) 1 = rD h (.inl 105) 1 := sf_jfe (r := 225) rfl (by decide +kernel)
  have e2 : sf_jf h (.inl 106) s = rD h (.inl 106) s := sf_jfe (r := 318) rfl (by decide +kernel)
  have e3 : sf_jf h (.inl 107) (6 * s + c) = rD h (.inl 107) (6 * s + c) := sf_jfe (r := 319) rfl (by decide +kernel)
  rw [e1, e2, e3] at k
  exact k (by omega) hc
theorem sf_k3 (hI : sf_I h) (e : rD h (.inl 105) 1 = S) : ∀ p : Nat, p < 36 * S → 0 < rD h (.inl 113) p → 1 ≤ rD h (.inl 111) p := fun p hp hq => by
  have k := hI.2.2.2.2.2.1 p
  have e1 : sf_jf h (.inl 105) 1 = rD h (.inl 105) 1 := sf_jfe (r := 225) rfl (by decide +kernel)
  have e2 : sf_jf h (.inl 113) p = rD h (.inl 113) p := sf_jfe (r := 325) rfl (by decide +kernel)
  have e3 : sf_jf h (.inl 111) p = rD h (.inl 111) p := sf_jfe (r := 323) rfl (by decide +kernel)
  rw [e1, e2, e3] at k
  exact k (by omega) hq
theorem st_feed (P : rt_P hc hr S N) (b1 : m1.testBit 190 = false ∧ m1.testBit 191 = false ∧ m1.testBit 198 = false ∧ m1.testBit 199 = false ∧ m1.testBit 200 = false ∧ m1.testBit 201 = false ∧ m1.testBit 426 = false) (e1 : sf_E m1 hc (f102 a1 a2 hc).2) (bc : m1 &&& (rt_Mc - 2 ^ 15 - 2 ^ 17) = 0) (e2 : sf_El m2 hr (f184 a1 a2 hr).2) (br : m2 &&& (rt_Mr - 2 ^ 240 - 2 ^ 330) = 0) : ∃ S' N', (S ≤ S' ∧ N ≤ N' ∧ rh_s S hc (f102 a1 a2 hc).2) ∧ rt_P (f102 a1 a2 hc).2 (f184 a1 a2 hr).2 S' N' := by
  obtain ⟨A, T, V, D, U, H⟩ := P
  obtain ⟨z1, z2⟩ := rs_feed (a1 := a1) (a2 := a2) A T
  obtain ⟨b0, b1, b6, b7, b8, b9, b5⟩ := b1
  have ec : ∀ s, s < S → rs_ec s hc (f102 a1 a2 hc).2 := fun s _ o i ho => by
    refine e1.1 (.inr (s, o)) i (rt_bit bc ?_)
    rcases (show o = 0 ∨ o = 1 ∨ o = 2 ∨ o = 3 ∨ o = 4 ∨ o = 5 ∨ o = 6 ∨ o = 7 ∨ o = 8 by omega) with t | t | t | t | t | t | t | t | t
    · subst t
      show (rt_Mc - 2 ^ 15 - 2 ^ 17).testBit (379 + i) = true
      exact (by decide +kernel : ∀ i, i < 13 → (rt_Mc - 2 ^ 15 - 2 ^ 17).testBit (379 + i) = true) i (ho.2 rfl)
    · subst t
      exact (show (rt_Mc - 2 ^ 15 - 2 ^ 17).testBit 392 = true by decide +kernel)
    · subst t
      exact (show (rt_Mc - 2 ^ 15 - 2 ^ 17).testBit 393 = true by decide +kernel)
    · subst t
      exact (show (rt_Mc - 2 ^ 15 - 2 ^ 17).testBit 394 = true by decide +kernel)
    · subst t
      exact (show (rt_Mc - 2 ^ 15 - 2 ^ 17).testBit 395 = true by decide +kernel)
    · subst t
      exact (show (rt_Mc - 2 ^ 15 - 2 ^ 17).testBit 396 = true by decide +kernel)
    · subst t
      exact (show (rt_Mc - 2 ^ 15 - 2 ^ 17).testBit 397 = true by decide +kernel)
    · subst t
      exact (show (rt_Mc - 2 ^ 15 - 2 ^ 17).testBit 398 = true by decide +kernel)
    · subst t
      exact (show (rt_Mc - 2 ^ 15 - 2 ^ 17).testBit 399 = true by decide +kernel)
  refine ⟨S, N, ⟨Nat.le_refl _, Nat.le_refl _, rs_ec_s ec⟩, z1, fun q => (z2 q).1, (rh_H.new H (Nat.le_refl _) ec (fun i => e1.2.1 (.inl 85) i b5) (fun q i l1 l2 l3 l4 => rt_hc b0 b1 b6 b7 b8 b9 e1.l q i l1 l2 l3 l4) (fun q i l1 l2 => ?_) (e2 105 24 (rt_bit (r := 248) br (by decide +kernel))) (e2 105 25 (rt_bit (r := 249) br (by decide +kernel)))).imp (fun V' H' => ⟨D, U, H'⟩)⟩
  rcases (show q = 123 ∨ q = 124 ∨ q = 125 ∨ q = 126 ∨ q = 127 by omega) with t | t | t | t | t
  · subst t
    exact e2 123 i (rt_bit (r := 335) br (by decide +kernel))
  · subst t
    exact e2 124 i (rt_bit (r := 336) br (by decide +kernel))
  · subst t
    exact e2 125 i (rt_bit (r := 337) br (by decide +kernel))
  · subst t
    exact e2 126 i (rt_bit (r := 338) br (by decide +kernel))
  · subst t
    exact e2 127 i (rt_bit (r := 339) br (by decide +kernel))
/-- what a call must leave alone of the histories where shapes or bodies come -/
def rt_hk (m1 m2 : Nat) : Bool := !m1.testBit 190 && (!m1.testBit 191 && (!m1.testBit 198 && (!m1.testBit 199 && (!m1.testBit 200 && (!m1.testBit 201 && (!m2.testBit 248 && (!m2.testBit 249 && (!m2.testBit 335 && (!m2.testBit 336 && (!m2.testBit 337 && (!m2.testBit 338 && !m2.testBit 339)))))))))))
theorem rt_hn {S' D U : Nat} {V : Nat → Nat → Nat → Int} {hc' hr' : mx_H} (k : rt_hk m1 m2 = true) (e1 : sf_El m1 hc hc') (e2 : sf_El m2 hr hr') (ec : ∀ s, s < S → rs_ec s hc hc') (p85 : ∀ i, hc'.2.2.2 (.inl 85) i = hc.2.2.2 (.inl 85) i) (SS : S ≤ S') (H : rh_H hc hr S V D U) : ∃ V' D' U', rh_H hc' hr' S' V' D' U' := by
  unfold rt_hk at k
  simp only [Bool.and_eq_true, Bool.not_eq_true'] at k
  obtain ⟨k1, k2, k3, k4, k5, k6, k7, k8, k9, k10, k11, k12, k13⟩ := k
  refine (rh_H.new H SS ec p85 (fun q i l1 l2 l3 l4 => rt_hc k1 k2 k3 k4 k5 k6 e1 q i l1 l2 l3 l4) (fun q i l1 l2 => ?_) (e2 105 24 k7) (e2 105 25 k8)).imp (fun V' H' => ⟨D, U, H'⟩)
  rcases (show q = 123 ∨ q = 124 ∨ q = 125 ∨ q = 126 ∨ q = 127 by omega) with t | t | t | t | t
  · subst t
    exact e2 123 i k9
  · subst t
    exact e2 124 i k10
  · subst t
    exact e2 125 i k11
  · subst t
    exact e2 126 i k12
  · subst t
    exact e2 127 i k13
theorem st_shape (I : sf_I hc) (I2 : sf_I (f103 hc).2) (P : rt_P hc hr S N) (k : rt_hk m1 m2 = true) (e1 : sf_El m1 hc (f103 hc).2) (e2 : sf_El m2 hr (f194 hr).2) : ∃ S' N', (S ≤ S' ∧ N ≤ N' ∧ rh_s S hc (f103 hc).2) ∧ rt_P (f103 hc).2 (f194 hr).2 S' N' := by
  obtain ⟨A, T, V, D, U, H⟩ := P
  obtain ⟨S', N', z1, z2, z3, z4, z5⟩ := rs_shape A T (sf_rd (lo := 0) (hi := 120) (r := 15) I (.inl 1) 1 rfl (by decide +kernel)) (fun i => sf_rd (lo := 0) (hi := 255) (r := 17) I (.inl 2) i rfl (by decide +kernel)) (fun k => (sf_rd (lo := 0) (hi := 9) (r := 398) I2 (.inr (S, 7)) k rfl (by decide +kernel)).1)
  exact ⟨S', N', ⟨z1.1, z1.2, rs_ec_s z4⟩, z2, z3, rt_hn k e1 e2 z4 z5 z1.1 H⟩
theorem st_join (I : sf_I hr) (P : rt_P hc hr S N) (k : rt_hk m1 m2 = true) (b1 : m1.testBit 15 = false) (b2 : m1.testBit 17 = false) (b3 : m2.testBit 240 = false) (b4 : m2.testBit 330 = false) (e1 : sf_El m1 hc (f142 a1 a2 a3 a4 hc).2) (e2 : sf_El m2 hr (f280 a1 a2 a3 a4 hr).2) : (f142 a1 a2 a3 a4 hc).1 = (f280 a1 a2 a3 a4 hr).1 ∧ ∃ S' N', (S ≤ S' ∧ N ≤ N' ∧ rh_s S hc (f142 a1 a2 a3 a4 hc).2) ∧ rt_P (f142 a1 a2 a3 a4 hc).2 (f280 a1 a2 a3 a4 hr).2 S' N' := by
  obtain ⟨A, T, V, D, U, H⟩ := P
  obtain ⟨z0, S', N', z1, z2, z4, z5⟩ := rs_join (a1 := a1) (a2 := a2) (a3 := a3) (a4 := a4) A (sf_113 I) (sf_110 I)
  exact ⟨z0, S', N', ⟨z1.1, z1.2, rs_ec_s z4⟩, z2, fun q => rt_T b1 b2 e1 b3 b4 e2 (T (by omega)), rt_hn k e1 e2 z4 z5 z1.1 H⟩
theorem st_body (P : rt_P hc hr S N) (k : rt_hk m1 m2 = true) (b1 : m1.testBit 15 = false) (b2 : m1.testBit 17 = false) (b3 : m2.testBit 240 = false) (b4 : m2.testBit 330 = false) (b5 : m1.testBit 426 = false) (bc : m1 &&& (rt_Mc - 2 ^ 202 - 2 ^ 207 - 2 ^ 427) = 0) (e1 : sf_E m1 hc (f147 a1 hc).2) (e2 : sf_El m2 hr (f285 a1 hr).2) : (f147 a1 hc).1 = (f285 a1 hr).1 ∧ ∃ S' N', (S ≤ S' ∧ N ≤ N' ∧ rh_s S hc (f147 a1 hc).2) ∧ rt_P (f147 a1 hc).2 (f285 a1 hr).2 S' N' := by
  obtain ⟨A, T, V, D, U, H⟩ := P
  obtain ⟨z0, N', zn, z2⟩ := rs_body (a := a1) A
  refine (show (∀ s, s < S → rs_ec s hc (f147 a1 hc).2) → _ from fun ec => ⟨z0, S, N', ⟨Nat.le_refl _, zn, rs_ec_s ec⟩, z2, fun q => rt_T b1 b2 e1.l b3 b4 e2 (T q), rt_hn k e1.l e2 ec (fun i => e1.2.1 (.inl 85) i b5) (Nat.le_refl _) H⟩) (fun s _ o i ho => ?_)
  refine e1.1 (.inr (s, o)) i (rt_bit bc ?_)
  rcases (show o = 0 ∨ o = 1 ∨ o = 2 ∨ o = 3 ∨ o = 4 ∨ o = 5 ∨ o = 6 ∨ o = 7 ∨ o = 8 by omega) with t | t | t | t | t | t | t | t | t
  · subst t
    show (rt_Mc - 2 ^ 202 - 2 ^ 207 - 2 ^ 427).testBit (379 + i) = true
    exact (by decide +kernel : ∀ i, i < 13 → (rt_Mc - 2 ^ 202 - 2 ^ 207 - 2 ^ 427).testBit (379 + i) = true) i (ho.2 rfl)
  · subst t
    exact (show (rt_Mc - 2 ^ 202 - 2 ^ 207 - 2 ^ 427).testBit 392 = true by decide +kernel)
  · subst t
    exact (show (rt_Mc - 2 ^ 202 - 2 ^ 207 - 2 ^ 427).testBit 393 = true by decide +kernel)
  · subst t
    exact (show (rt_Mc - 2 ^ 202 - 2 ^ 207 - 2 ^ 427).testBit 394 = true by decide +kernel)
  · subst t
    exact (show (rt_Mc - 2 ^ 202 - 2 ^ 207 - 2 ^ 427).testBit 395 = true by decide +kernel)
  · subst t
    exact (show (rt_Mc - 2 ^ 202 - 2 ^ 207 - 2 ^ 427).testBit 396 = true by decide +kernel)
  · subst t
    exact (show (rt_Mc - 2 ^ 202 - 2 ^ 207 - 2 ^ 427).testBit 397 = true by decide +kernel)
  · subst t
    exact (show (rt_Mc - 2 ^ 202 - 2 ^ 207 - 2 ^ 427).testBit 398 = true by decide +kernel)
  · subst t
    exact (show (rt_Mc - 2 ^ 202 - 2 ^ 207 - 2 ^ 427).testBit 399 = true by decide +kernel)
theorem st_put (I : sf_I hr) (P : rt_P hc hr S N) (b1 : m1.testBit 15 = false) (b2 : m1.testBit 17 = false) (b3 : m2.testBit 240 = false) (b4 : m2.testBit 330 = false) (b5 : m1.testBit 385 = false) (b6 : m1.testBit 396 = false) (b7 : m1.testBit 397 = false) (e1 : sf_E m1 hc (f106 a1 a2 a3 a4 hc).2) (e2 : sf_El m2 hr (f201 a1 a2 a3 a4 hr).2) : (f106 a1 a2 a3 a4 hc).1 = (f201 a1 a2 a3 a4 hr).1 ∧ ∃ S' N', (S ≤ S' ∧ N ≤ N' ∧ rh_s S hc (f106 a1 a2 a3 a4 hc).2) ∧ rt_P (f106 a1 a2 a3 a4 hc).2 (f201 a1 a2 a3 a4 hr).2 S' N' := by
  obtain ⟨A, T, V, D, U, H⟩ := P
  obtain ⟨z0, z1, z2⟩ := rs_put (a1 := a1) (a2 := a2) (a3 := a3) (a4 := a4) A H (sf_110 I)
  exact ⟨z0, S, N, ⟨Nat.le_refl _, Nat.le_refl _, fun s _ => ⟨e1.1 (.inr (s, 0)) 6 b5, fun k => ⟨e1.1 (.inr (s, 5)) k b6, e1.1 (.inr (s, 6)) k b7⟩⟩⟩, z1, fun q => rt_T b1 b2 e1.l b3 b4 e2 (T q), z2⟩
theorem st_crack (I : sf_I hr) (P : rt_P hc hr S N) (b1 : m1.testBit 15 = false) (b2 : m1.testBit 17 = false) (b3 : m2.testBit 240 = false) (b4 : m2.testBit 330 = false) (b5 : m1.testBit 385 = false) (b6 : m1.testBit 396 = false) (b7 : m1.testBit 397 = false) (e1 : sf_E m1 hc (f107 a1 a2 a3 a4 hc).2) (e2 : sf_El m2 hr (f202 a1 a2 a3 a4 hr).2) : (f107 a1 a2 a3 a4 hc).1 = (f202 a1 a2 a3 a4 hr).1 ∧ ∃ S' N', (S ≤ S' ∧ N ≤ N' ∧ rh_s S hc (f107 a1 a2 a3 a4 hc).2) ∧ rt_P (f107 a1 a2 a3 a4 hc).2 (f202 a1 a2 a3 a4 hr).2 S' N' := by
  obtain ⟨A, T, V, D, U, H⟩ := P
  obtain ⟨z0, z1, z2⟩ := rs_crack (a1 := a1) (a2 := a2) (a3 := a3) (a4 := a4) A H (sf_9 I)
  exact ⟨z0, S, N, ⟨Nat.le_refl _, Nat.le_refl _, fun s _ => ⟨e1.1 (.inr (s, 0)) 6 b5, fun k => ⟨e1.1 (.inr (s, 5)) k b6, e1.1 (.inr (s, 6)) k b7⟩⟩⟩, z1, fun q => rt_T b1 b2 e1.l b3 b4 e2 (T q), z2⟩
theorem st_stroke (I : sf_I hr) (P : rt_P hc hr S N) (b1 : m1.testBit 15 = false) (b2 : m1.testBit 17 = false) (b3 : m2.testBit 240 = false) (b4 : m2.testBit 330 = false) (b5 : m1.testBit 385 = false) (b6 : m1.testBit 396 = false) (b7 : m1.testBit 397 = false) (e1 : sf_E m1 hc (f108 a1 a2 a3 hc).2) (e2 : sf_El m2 hr (f203 a1 a2 a3 hr).2) : (f108 a1 a2 a3 hc).1 = (f203 a1 a2 a3 hr).1 ∧ ∃ S' N', (S ≤ S' ∧ N ≤ N' ∧ rh_s S hc (f108 a1 a2 a3 hc).2) ∧ rt_P (f108 a1 a2 a3 hc).2 (f203 a1 a2 a3 hr).2 S' N' := by
  obtain ⟨A, T, V, D, U, H⟩ := P
  obtain ⟨z0, z1, z2⟩ := rs_stroke (a1 := a1) (a2 := a2) (a3 := a3) A H (sf_9 I) (sf_k2 I A.2.2.2.1) (sf_k3 I A.2.2.2.1)
  exact ⟨z0, S, N, ⟨Nat.le_refl _, Nat.le_refl _, fun s _ => ⟨e1.1 (.inr (s, 0)) 6 b5, fun k => ⟨e1.1 (.inr (s, 5)) k b6, e1.1 (.inr (s, 6)) k b7⟩⟩⟩, z1, fun q => rt_T b1 b2 e1.l b3 b4 e2 (T q), z2⟩
theorem st_undo (P : rt_P hc hr S N) (b1 : m1.testBit 15 = false) (b2 : m1.testBit 17 = false) (b3 : m2.testBit 240 = false) (b4 : m2.testBit 330 = false) (b5 : m1.testBit 385 = false) (b6 : m1.testBit 396 = false) (b7 : m1.testBit 397 = false) (e1 : sf_E m1 hc (f144 hc).2) (e2 : sf_El m2 hr (f204 hr).2) : (f144 hc).1 = (f204 hr).1 ∧ ∃ S' N', (S ≤ S' ∧ N ≤ N' ∧ rh_s S hc (f144 hc).2) ∧ rt_P (f144 hc).2 (f204 hr).2 S' N' := by
  obtain ⟨A, T, V, D, U, H⟩ := P
  obtain ⟨z0, z1, z2⟩ := rs_undo A H
  exact ⟨z0, S, N, ⟨Nat.le_refl _, Nat.le_refl _, fun s _ => ⟨e1.1 (.inr (s, 0)) 6 b5, fun k => ⟨e1.1 (.inr (s, 5)) k b6, e1.1 (.inr (s, 6)) k b7⟩⟩⟩, z1, fun q => rt_T b1 b2 e1.l b3 b4 e2 (T q), z2⟩
theorem st_redo (P : rt_P hc hr S N) (b1 : m1.testBit 15 = false) (b2 : m1.testBit 17 = false) (b3 : m2.testBit 240 = false) (b4 : m2.testBit 330 = false) (b5 : m1.testBit 385 = false) (b6 : m1.testBit 396 = false) (b7 : m1.testBit 397 = false) (e1 : sf_E m1 hc (f145 hc).2) (e2 : sf_El m2 hr (f205 hr).2) : (f145 hc).1 = (f205 hr).1 ∧ ∃ S' N', (S ≤ S' ∧ N ≤ N' ∧ rh_s S hc (f145 hc).2) ∧ rt_P (f145 hc).2 (f205 hr).2 S' N' := by
  obtain ⟨A, T, V, D, U, H⟩ := P
  obtain ⟨z0, z1, z2⟩ := rs_redo A H
  exact ⟨z0, S, N, ⟨Nat.le_refl _, Nat.le_refl _, fun s _ => ⟨e1.1 (.inr (s, 0)) 6 b5, fun k => ⟨e1.1 (.inr (s, 5)) k b6, e1.1 (.inr (s, 6)) k b7⟩⟩⟩, z1, fun q => rt_T b1 b2 e1.l b3 b4 e2 (T q), z2⟩
end RTB
set_option maxRecDepth 1000000 in
theorem rt_00 : sp_hN.2.1 (.inl 0) 2 = 0 ∧ sp_hN.2.1 (.inl 105) 1 = 0 ∧ sp_hN.2.1 (.inl 90) 0 = 0 ∧ sp_hN.2.1 (.inl 105) 12 = 0 ∧ sp_hN.1 = 167 ∧ sp_hN.2.2.2 (.inl 0) 3 = some (.inr (0, 0)) ∧ sp_hN.2.1 (.inl 1) 1 = 0 ∧ sp_hN.2.1 (.inl 105) 16 = 0 ∧ sp_hN.2.1 (.inl 84) 0 = 0 ∧ sp_hN.2.1 (.inl 84) 1 = 0 ∧ sp_hN.2.1 (.inl 105) 24 = 0 ∧ sp_hN.2.1 (.inl 105) 25 = 0 ∧ sp_hN.2.1 (.inl 60) 1 = 0 ∧ sp_hN.2.1 (.inl 60) 5 = 0 ∧ sp_hN.2.1 (.inl 105) 51 = 0 ∧ sp_hN.2.1 (.inl 105) 56 = 0 ∧ ∀ s, s < 6 → sp_hN.2.1 (.inl 95) s = -2 ∧ sp_hN.2.1 (.inl 163) s = -1 := by decide +kernel
theorem rt_0 : rt_R sp_hN := by
  obtain ⟨n1, n2, n3, n4, n5, n6, n7, n8, n9, n10, n11, n12, m1, m2, m3, m4, n13⟩ := rt_00
  refine ⟨0, 0, ⟨⟨by decide +kernel, by decide +kernel, ?_, ?_, ?_, ?_, n5, n6, fun s hs => absurd hs (Nat.not_lt_zero _), fun b hb => absurd hb (Nat.not_lt_zero _)⟩, fun _ => ⟨0, by decide +kernel, ?_, ?_, fun i hi => absurd hi (Nat.not_lt_zero _)⟩, fun _ _ _ => 0, 0, 0, ?_, ?_, ?_, ?_, by decide +kernel, fun s k hs => absurd hs (Nat.not_lt_zero _), fun j hj => absurd hj (Nat.not_lt_zero _)⟩, fun s hs => Or.inl (n13 s hs), ⟨0, by decide +kernel, by unfold rD; rw [m1]; rfl, by unfold rD; rw [m3]; rfl, fun z => absurd z (Nat.lt_irrefl 0)⟩, 0, by decide +kernel, by unfold rD; rw [m2]; rfl, by unfold rD; rw [m4]; rfl, fun j hj => absurd hj (Nat.not_lt_zero _)⟩
  · unfold rD
    rw [n1]
    rfl
  · unfold rD
    rw [n2]
    rfl
  · unfold rD
    rw [n3]
    rfl
  · unfold rD
    rw [n4]
    rfl
  · unfold rD
    rw [n7]
    rfl
  · unfold rD
    rw [n8]
    rfl
  · unfold rD
    rw [n9]
    rfl
  · unfold rD
    rw [n10]
    rfl
  · unfold rD
    rw [n11]
    rfl
  · unfold rD
    rw [n12]
    rfl
/-! ===== further blows told: how many, on both sides ===== -/
def rt_b (hc hr : mx_H) : Prop := hc.2.1 (.inl 71) 7 = hr.2.1 (.inl 105) 79
def rt_B (h : mx_H) : Prop := rt_b h h
section RTC
variable {h h' hc hr h2 h4 : mx_H} {S N m m1 m2 : Nat} {a1 a2 a3 a4 : Int32}
theorem rt_Bf (b1 : m.testBit 171 = false) (b2 : m.testBit 303 = false) (e : sf_El m h h') (B : rt_B h) : rt_B h' := by
  show h'.2.1 (.inl 71) 7 = h'.2.1 (.inl 105) 79
  rw [e 71 7 b1, e 105 79 b2]
  exact B
theorem rt_Br (b2 : m.testBit 303 = false) (e : sf_El m h h') (B : rt_b hc h) : rt_b hc h' := by
  show hc.2.1 (.inl 71) 7 = h'.2.1 (.inl 105) 79
  rw [e 105 79 b2]
  exact B
theorem rt_Bc (b1 : m.testBit 171 = false) (e : sf_El m h h') (B : rt_b h hr) : rt_b h' hr := by
  show h'.2.1 (.inl 71) 7 = hr.2.1 (.inl 105) 79
  rw [e 71 7 b1]
  exact B
theorem st_roll (I : sf_I hc) (B : rt_b hc hr) : (f132 a1 a2 a3 hc).1 = (f260 a1 a2 a3 hr).1 ∧ rt_b (f132 a1 a2 a3 hc).2 (f260 a1 a2 a3 hr).2 := by
  obtain ⟨b1, b2⟩ := sf_rd (lo := 0) (hi := 6) (r := 171) I (.inl 71) 7 rfl (by decide +kernel)
  have B' : hc.2.1 (.inl 71) 7 = hr.2.1 (.inl 105) 79 := B
  rw [f132_eq, f260_eq, f159_eq, w_ws, w_ws, w_ws]
  by_cases c1 : f173 a1 0 5 = 0
  · rw [if_pos c1, if_pos c1]
    exact ⟨rfl, B⟩
  · rw [if_neg c1, if_neg c1]
    by_cases c2 : f173 a2 (-99) 99 = 0
    · rw [if_pos c2, if_pos c2]
      exact ⟨rfl, B⟩
    · rw [if_neg c2, if_neg c2]
      by_cases c3 : f173 a3 0 99 ≠ 0
      · rw [if_pos c3, if_pos c3]
        by_cases c4 : (hc.2.1 (.inl 71) 7).toInt < 6
        · have l6 : hc.2.1 (.inl 71) 7 < 6 := i_lt rfl k_6 c4
          have e : (f2 a1 a2 a3 hc).2.1 (.inl 71) 7 = hr.2.1 (.inl 105) 79 + 1 := by
            rw [f2_eq, if_pos l6, ← B']
            rfl
          rw [if_pos l6, if_pos (show hr.2.1 (.inl 105) 79 ≠ 6 from fun z => by
            rw [B', z] at c4
            exact absurd c4 (by decide +kernel))]
          exact ⟨e, e⟩
        · rw [if_neg (i_nlt rfl k_6 (by omega)), if_neg (show ¬ hr.2.1 (.inl 105) 79 ≠ 6 from fun z => z (B' ▸ i_eq rfl k_6 (by omega)))]
          exact ⟨rfl, B⟩
      · rw [if_neg c3, if_neg c3]
        exact ⟨rfl, B⟩
theorem ml_itr_inv {σ ρ : Type} {s : σ → σ ⊕ ρ} {P : ρ → Prop} (I : ∀ x r, s x = .inr r → P r) : ∀ (n : Nat) (x : σ) (r : ρ), ml_itr s n x = some r → P r
  | 0, _, _, e => by cases e
  | n + 1, x, r, e => by
    cases es : s x with
    | inl y =>
      rw [ml_itr_i es] at e
      exact ml_itr_inv I n y r e
    | inr q =>
      rw [ml_itr_r es] at e
      cases e
      exact I x r es
theorem ml_wh_inv {σ ρ : Type} [Inhabited ρ] {s : σ → σ ⊕ ρ} {P : ρ → Prop} (hd : P default) (I : ∀ x r, s x = .inr r → P r) (x : σ) : P (ml_wh s x) := by
  by_cases h : ∃ r, ∃ n, ml_itr s n x = some r
  · have e : ml_wh s x = Classical.choose h := dif_pos h
    rw [e]
    obtain ⟨n, hn⟩ := Classical.choose_spec h
    exact ml_itr_inv I n x _ hn
  · have e : ml_wh s x = default := dif_neg h
    rw [e]
    exact hd
theorem R261 {a2 a3 a4 : Int32} : (g261_41 a2 a3 a4 h).2.2.1 (.inl 105) 79 = 0 := by
  unfold g261_41
  refine ml_wh_inv (P := fun r : Int32 × mx_H => r.2.2.1 (.inl 105) 79 = 0) rfl (fun x r e => ?_) _
  rcases x with ⟨b2, b3, b4, g⟩ | ⟨b2, b3, b4, b5, g⟩
  · simp only [b261] at e
    split at e
    · cases e
      exact rI_s
    · cases e
  · simp only [b261, x_let] at e
    split at e
    · cases e
    · split at e
      · cases e
      · split at e
        · cases e
        · split at e
          · cases e
          · cases e
theorem st_rolled (A : rs_A hc hr S N) (B : rt_b hc hr) : rt_b (f133 a1 a2 hc).2 (f261 a1 a2 hr).2 := by
  have B' : hc.2.1 (.inl 71) 7 = hr.2.1 (.inl 105) 79 := B
  rw [f133_eq, f261_eq, ← w_ws]
  rcases C166 (a := a1) A with ⟨s, lt, h1, e1, e1'⟩ | ⟨e1, e1'⟩
  · rw [e1, e1', if_neg n10]
    show rt_b (if f157 a2 1 200 ≠ 0 then _ else _ : Int32 × mx_H).2 _
    by_cases c : f157 a2 1 200 ≠ 0
    · rw [if_pos c, if_pos c]
      by_cases c2 : hr.2.1 (.inl 105) 79 ≠ 0
      · rw [B', if_pos c2, if_pos c2]
        refine Eq.trans ?_ R261.symm
        exact rI_s
      · rw [B', if_neg c2, if_neg c2]
        exact B
    · rw [if_neg c, if_neg c]
      exact B
  · rw [e1, e1', if_pos rfl]
    exact B
end RTC
/-! ===== what the law carries; exact answers beside what is safe ===== -/
def rt_Q (h : mx_H) : Prop := rt_R h ∧ rt_B h
set_option maxRecDepth 1000000 in
theorem rt_Q00 : sp_hN.2.1 (.inl 71) 7 = sp_hN.2.1 (.inl 105) 79 := by decide +kernel
theorem rt_Q0 : rt_Q sp_hN := ⟨rt_0, rt_Q00⟩
section RTD
variable {E : mx_Ev} {d n : Nat} {av : List mx_V} {h h2 : mx_H} {Q : Option mx_V → mx_H → Prop} {M : mx_H → Prop} {m : Nat}
theorem rt_Ci {r : Int32 × mx_H} (T : mx_C E (mx_fn true) d n av h (fun v h' => ∃ x, v = some (.inl (.int x)) ∧ sf_I h' ∧ M h')) (X : ∀ k, mx_M E k n av h (fun v h' => v = some (.inl (.int r.1)) ∧ h' = r.2)) (K : sf_I r.2 → M r.2 → Q (some (.inl (.int r.1))) r.2) : mx_C E (mx_fn true) d n av h Q :=
  (T.and X).mono (fun v h' q => by
    obtain ⟨⟨x, -, I, e⟩, e1, e2⟩ := q
    subst e2
    rw [e1]
    exact K I e)
theorem xk_i {r q : Int32 × mx_H} (e : q = r) : xK_i (fun v h' => v = some (.inl (.int r.1)) ∧ h' = r.2) q := by
  subst e
  exact And.intro rfl rfl
theorem rt_eq {X : Prop} (R : rt_R h) (b : m &&& rt_Mr = 0) (e : sf_El m h h2) (k : ∀ S N, rt_P h h2 S N → X) : X := by
  obtain ⟨S, N, P, -, -⟩ := R
  exact k S N (P.r b e)
theorem rt_Qf {h' : mx_H} (b1 : m &&& rt_Mc = 0) (b2 : m &&& rt_Mr = 0) (b5 : m &&& rt_Ms = 0) (b6 : m &&& rt_Ml = 0) (b3 : m.testBit 171 = false) (b4 : m.testBit 303 = false) (e : sf_E m h h') (R : rt_Q h) : rt_Q h' := ⟨rt_f b1 b2 b5 b6 e R.1, rt_Bf b3 b4 e.l R.2⟩
end RTD
/-! ===== digest: alike ===== -/
section RTF
variable {h hc hr : mx_H} {S N s n C F u v c k : Nat} {a a1 a2 a3 a4 x y : Int32}
theorem dg_c (h1 : a2.toInt = (s : Int)) (s12 : s ≤ 12) (Ds : rs_D hc hr N s C n F) (hb : ∀ i, hr.2.1 (.inl 110) i = 0 ∨ hr.2.1 (.inl 110) i = 1) : ∀ (j c : Nat) (x a3 y : Int32), c + j = C → a3.toInt = (c : Int) → y.toInt = ((6 * s + c : Nat) : Int) → ∃ x', g68_4 s x a3 hc = g68_62 s x' 0 hc ∧ g206_18 x a2 y hr = g206_97 x' a2 0 hr
  | 0, c, x, a3, y, e, ha, hy => by
    have kc := Ds.2.2.2.1
    have kr := Ds.2.2.2.2.1
    have C6 := Ds.2.1
    refine ⟨x, ?_, ?_⟩
    · rw [g68_4_eq, if_pos (i_le kc ha (by omega))]
    · rw [g206_18_eq, i_cl h1, if_pos (i_le (i_add (i_mul k_6 h1 (by omega) (by omega)) kr (by omega) (by omega)) hy (by omega))]
  | j + 1, c, x, a3, y, e, ha, hy => by
    have kc := Ds.2.2.2.1
    have kr := Ds.2.2.2.2.1
    have C6 := Ds.2.1
    obtain ⟨b1, b2, b3, b4⟩ := Ds.2.2.2.2.2.2.2.1 c (by omega)
    have ha1 : (a3 + 1).toInt = ((c + 1 : Nat) : Int) := (i_add ha k_1 (by omega) (by omega)).trans (by omega)
    have hy1 : (y + 1).toInt = ((6 * s + (c + 1) : Nat) : Int) := (i_add hy k_1 (by omega) (by omega)).trans (by omega)
    have E1 : g68_4 s x a3 hc = g68_4 s ((((x * 31 + hr.2.1 (.inl 107) (6 * s + c)) * 31 + hr.2.1 (.inl 108) (6 * s + c)) * 31 + hr.2.1 (.inl 109) (6 * s + c)) * 31 + hr.2.1 (.inl 110) (6 * s + c)) (a3 + 1) hc := by
      rw [g68_4_eq, if_neg (i_nle kc ha (by omega)), i_cl ha, b1, b2, b3, b4]
    have E2 : g206_18 x a2 y hr = g206_18 ((((x * 31 + hr.2.1 (.inl 107) (6 * s + c)) * 31 + hr.2.1 (.inl 108) (6 * s + c)) * 31 + hr.2.1 (.inl 109) (6 * s + c)) * 31 + hr.2.1 (.inl 110) (6 * s + c)) a2 (y + 1) hr := by
      rw [g206_18_eq, i_cl h1, if_neg (i_nle (i_add (i_mul k_6 h1 (by omega) (by omega)) kr (by omega) (by omega)) hy (by omega)), i_cl hy]
      rcases hb (6 * s + c) with z | z
      · rw [if_pos z, z]
      · rw [if_neg (by rw [z]; exact n10), z]
    obtain ⟨x', z1, z2⟩ := dg_c h1 s12 Ds hb j (c + 1) _ (a3 + 1) (y + 1) (by omega) ha1 hy1
    exact ⟨x', E1.trans z1, E2.trans z2⟩
theorem f174_m {u v : Nat} (hx : x.toInt = (u : Int)) (hy : y.toInt = (v : Int)) : (f174 x y).toInt = ((min u v : Nat) : Int) := (f174_v hx hy).trans (by omega)
theorem f175_m {u v : Nat} (hx : x.toInt = (u : Int)) (hy : y.toInt = (v : Int)) : (f175 x y).toInt = ((max u v : Nat) : Int) := by
  rw [f175_eq]
  by_cases t : x ≤ y
  · have t' := Int32.le_iff_toInt_le.mp t
    rw [if_pos t]
    omega
  · have t' : y.toInt < x.toInt := Int.not_le.mp (fun q => t (Int32.le_iff_toInt_le.mpr q))
    rw [if_neg t]
    omega
theorem dg_p (h1 : a2.toInt = (s : Int)) (s12 : s ≤ 12) (N2 : N ≤ 200) (hN : rD hr (.inl 105) 12 = N) (Ds : rs_D hc hr N s C n F) (Hm : ∀ b, b < N → ¬ (F ≤ b ∧ b < F + n) → hr.2.1 (.inl 117) b = 0 ∨ ∃ s' u v : Nat, s' ≤ 12 ∧ s' ≠ s ∧ u < 6 ∧ v < 6 ∧ rD hr (.inl 117) b = ((36 * s' + 6 * u + v + 1 : Nat) : Int)) :
    ∀ (j b k : Nat) (x a3 y : Int32), b + j = N → y.toInt = (b : Int) → a3.toInt = (k : Int) → (b ≤ F ∧ k = 0) ∨ (F < b ∧ b ≤ F + n ∧ k = b - F) ∨ (F + n < b ∧ k = n) → g206_97 x a2 y hr = g206_5 (g68_62 s x a3 hc) (a2 + 1) hr
  | 0, b, k, x, a3, y, e, hy, ha, K => by
    have fn := Ds.2.2.1
    have k6 := Ds.2.2.2.2.2.1
    rw [g206_97_eq, if_pos (i_le hN hy (by omega)), g68_62_eq, if_pos (i_le k6 ha (by omega))]
  | j + 1, b, k, x, a3, y, e, hy, ha, K => by
    have fn := Ds.2.2.1
    have k6 := Ds.2.2.2.2.2.1
    have C6 := Ds.2.1
    have hy1 : (y + 1).toInt = ((b + 1 : Nat) : Int) := (i_add hy k_1 (by omega) (by omega)).trans (by omega)
    by_cases c : F ≤ b ∧ b < F + n
    · have kb : k = b - F := by omega
      obtain ⟨u, v, Q⟩ := Ds.2.2.2.2.2.2.2.2.2.1 k (by omega)
      have q12 := Q.2.2.2.2.2.2.2.2.2.2.2.1
      rw [show F + k = b by omega] at q12
      have u1 := Q.1
      have v1 := Q.2.1
      have t := R278t q12 (show u < 6 by omega) (show v < 6 by omega) s12
      obtain ⟨d1, d2, d3⟩ := R_dec t (show u < 6 by omega) (show v < 6 by omega) s12
      have lo : f174 ((hr.2.1 (.inl 117) b - 1) / 6 - (hr.2.1 (.inl 117) b - 1) / 6 / 6 * 6) (hr.2.1 (.inl 117) b - 1 - (hr.2.1 (.inl 117) b - 1) / 6 * 6) = hc.2.1 (.inr (s, 5)) k := i_eq (f174_m d2 d3) Q.2.2.2.1 rfl
      have hi : f175 ((hr.2.1 (.inl 117) b - 1) / 6 - (hr.2.1 (.inl 117) b - 1) / 6 / 6 * 6) (hr.2.1 (.inl 117) b - 1 - (hr.2.1 (.inl 117) b - 1) / 6 * 6) = hc.2.1 (.inr (s, 6)) k := i_eq (f175_m d2 d3) Q.2.2.2.2.1 rfl
      rw [g206_97_eq, if_neg (i_nle hN hy (by omega)), i_cl hy, if_neg (i_nlt t k_0 (by omega)), if_pos (i_eq d1 h1 rfl), lo, hi, i_cl t, Q.2.2.2.2.2.2.2.1, Q.2.2.2.2.2.2.2.2.2.1]
      rw [g68_62_eq, if_neg (i_nle k6 ha (by omega)), i_cl ha]
      exact dg_p h1 s12 N2 hN Ds Hm j (b + 1) (k + 1) _ (a3 + 1) (y + 1) (by omega) hy1 ((i_add ha k_1 (by omega) (by omega)).trans (by omega)) (by omega)
    · have E : g206_97 x a2 y hr = g206_97 x a2 (y + 1) hr := by
        rw [g206_97_eq, if_neg (i_nle hN hy (by omega)), i_cl hy]
        rcases Hm b (by omega) c with z | ⟨s', u, v, w1, w2, w3, w4, w5⟩
        · rw [z, if_pos (by decide +kernel)]
        · have t := R278t w5 w3 w4 w1
          obtain ⟨d1, d2, d3⟩ := R_dec t w3 w4 w1
          rw [if_neg (i_nlt t k_0 (by omega)), if_neg (i_ne d1 h1 (by omega))]
      rw [E]
      exact dg_p h1 s12 N2 hN Ds Hm j (b + 1) k x a3 (y + 1) (by omega) hy1 ha (by omega)
theorem dg_s (I : sf_I hr) (A : rs_A hc hr S N) : ∀ (j s : Nat) (x y : Int32), s + j = S → y.toInt = (s : Int) → g146_5 x y hc = g206_5 x y hr
  | 0, s, x, y, e, hy => by
    rw [g146_5_eq, if_pos (i_le A.2.2.1 hy (by omega)), g206_5_eq, if_pos (i_le A.2.2.2.1 hy (by omega))]
  | j + 1, s, x, y, e, hy => by
    obtain ⟨A1, A2, A3, A4, A5, A6, A7, A8, A9, A10⟩ := id A
    rcases C166 (a := y) A with ⟨s', lt, h1, e1, e1'⟩ | ⟨e1, e1'⟩
    · have es : s' = s := by omega
      subst es
      obtain ⟨C, n, F, Ds⟩ := (A9 s' lt).2
      have C6 := Ds.2.1
      have hy6 : (6 * y).toInt = ((6 * s' + 0 : Nat) : Int) := (i_mul k_6 hy (by omega) (by omega)).trans (by omega)
      obtain ⟨x', z1, z2⟩ := dg_c hy (by omega) Ds (sf_110 I) C 0 x 0 (6 * y) (by omega) rfl hy6
      have z3 := dg_p (a2 := y) hy (by omega) A2 A6 Ds (rs_Hm A Ds (fun _ _ => rfl)) N 0 0 x' 0 0 (by omega) rfl rfl (Or.inl ⟨by omega, rfl⟩)
      rw [g146_5_eq, if_neg (i_nle A3 hy (by omega)), e1, g206_5_eq, if_neg (i_nle A4 hy (by omega)), z2, z3]
      show g146_5 (f68 s' x hc) (y + 1) hc = _
      rw [f68_eq, z1]
      exact dg_s I A j (s' + 1) _ (y + 1) (by omega) ((i_add hy k_1 (by omega) (by omega)).trans (by omega))
    · exfalso
      rw [f177_eq, w173_1 hy k_0 (i_sub A4 k_1 (by omega) (by omega)) (by omega)] at e1'
      exact n10 e1'
theorem aw_digest (I : sf_I hr) (A : rs_A hc hr S N) : f146 hc = f206 hr := by
  rw [f146_eq, f206_eq]
  exact dg_s I A S 0 7 0 (by omega) rfl
end RTF
/-! ===== the shelves: what they hold, on both sides ===== -/
section RTG
variable {h hc hr : mx_H} {S N s : Nat} {a1 a2 a3 : Int32} {v : Int64}
theorem sh_in (c : ¬ f173 a1 0 5 = 0) : ∃ s : Nat, s < 6 ∧ a1.toInt = (s : Int) := by
  by_cases q : (0 : Int32).toInt ≤ a1.toInt ∧ a1.toInt ≤ (5 : Int32).toInt
  · rw [k_0, k_5] at q
    exact ⟨a1.toInt.toNat, by omega, by omega⟩
  · exact absurd (by rw [w173, if_neg q]) c
theorem st_keep (A : rs_A hc hr S N) (K : rt_S hc hr N) : rt_S (f150 a1 a2 hc).2 (f301 a1 a2 hr).2 N := by
  have e : hc.2.1 (.inl 90) 0 = hr.2.1 (.inl 105) 12 := i_eq A.2.2.2.2.1 A.2.2.2.2.2.1 rfl
  have N2 := A.2.1
  have hN := A.2.2.2.2.2.1
  rw [f150_eq, f301_eq, f161_eq, f300_eq, f163_eq, f283_eq, e, w_ws, w_ws]
  by_cases c1 : f173 a1 0 5 = 0
  · rw [if_pos c1, if_pos c1]
    exact K
  · obtain ⟨t, t6, ht⟩ := sh_in c1
    rw [if_neg c1, if_neg c1, i_cl ht]
    by_cases c2 : a2 = -1
    · rw [if_pos c2, if_pos c2]
      show rt_S (f70 a1 a2 hc) (mx_uI hr (.inl 163) t a2) N
      rw [f70_eq, i_cl ht, c2, if_neg (by decide +kernel)]
      intro s hs
      by_cases es : s = t
      · refine Or.inl ⟨?_, ?_⟩
        · show (mx_uI hc (.inl 95) t (-2)).2.1 (.inl 95) s = -2
          rw [sh_i, if_pos es]
        · rw [sh_i, if_pos es]
      · have r1 : (mx_uI (mx_uI (mx_uI hc (.inl 95) t (-2)) (.inl 97) t (if (-1 : Int32) < 0 then 0 else -1)) (.inl 96) t 0).2.1 (.inl 95) s = hc.2.1 (.inl 95) s := by
          show (mx_uI hc (.inl 95) t (-2)).2.1 (.inl 95) s = _
          rw [sh_i, if_neg es]
        have r2 : (mx_uI (mx_uI (mx_uI hc (.inl 95) t (-2)) (.inl 97) t (if (-1 : Int32) < 0 then 0 else -1)) (.inl 96) t 0).2.1 (.inl 97) s = hc.2.1 (.inl 97) s := by
          show (mx_uI (mx_uI hc (.inl 95) t (-2)) (.inl 97) t (if (-1 : Int32) < 0 then 0 else -1)).2.1 (.inl 97) s = _
          rw [sh_i, if_neg es]
          rfl
        have r3 : (mx_uI (mx_uI (mx_uI hc (.inl 95) t (-2)) (.inl 97) t (if (-1 : Int32) < 0 then 0 else -1)) (.inl 96) t 0).2.1 (.inl 96) s = hc.2.1 (.inl 96) s := by
          rw [sh_i, if_neg es]
          rfl
        have r4 : (mx_uI hr (.inl 163) t (-1)).2.1 (.inl 163) s = hr.2.1 (.inl 163) s := by rw [sh_i, if_neg es]
        unfold rD
        rw [r1, r2, r3, r4]
        exact K s hs
    · rw [if_neg c2, if_neg c2]
      by_cases c3 : f173 a2 0 (hr.2.1 (.inl 105) 12 - 1) ≠ 0
      · rw [if_pos c3, if_pos c3]
        have b : 0 ≤ a2.toInt ∧ a2.toInt ≤ (N : Int) - 1 := Classical.byContradiction fun q => c3 (w173_0 rfl k_0 (i_sub hN k_1 (by omega) (by omega)) q)
        show rt_S (f70 a1 a2 hc) (mx_uI hr (.inl 163) t a2) N
        rw [f70_eq, i_cl ht, if_pos (i_le k_0 rfl b.1), if_neg (i_nlt rfl k_0 b.1)]
        intro s hs
        by_cases es : s = t
        · refine Or.inr (Or.inl ⟨?_, a2.toInt.toNat, by omega, ?_, ?_⟩)
          · show (mx_uI hc (.inl 95) t (-1)).2.1 (.inl 95) s = -1
            rw [sh_i, if_pos es]
          · show ((mx_uI (mx_uI hc (.inl 95) t (-1)) (.inl 97) t a2).2.1 (.inl 97) s).toInt = _
            rw [sh_i, if_pos es]
            omega
          · unfold rD
            rw [sh_i, if_pos es]
            omega
        · have r1 : (mx_uI (mx_uI (mx_uI hc (.inl 95) t (-1)) (.inl 97) t a2) (.inl 96) t 0).2.1 (.inl 95) s = hc.2.1 (.inl 95) s := by
            show (mx_uI hc (.inl 95) t (-1)).2.1 (.inl 95) s = _
            rw [sh_i, if_neg es]
          have r2 : (mx_uI (mx_uI (mx_uI hc (.inl 95) t (-1)) (.inl 97) t a2) (.inl 96) t 0).2.1 (.inl 97) s = hc.2.1 (.inl 97) s := by
            show (mx_uI (mx_uI hc (.inl 95) t (-1)) (.inl 97) t a2).2.1 (.inl 97) s = _
            rw [sh_i, if_neg es]
            rfl
          have r3 : (mx_uI (mx_uI (mx_uI hc (.inl 95) t (-1)) (.inl 97) t a2) (.inl 96) t 0).2.1 (.inl 96) s = hc.2.1 (.inl 96) s := by
            rw [sh_i, if_neg es]
            rfl
          have r4 : (mx_uI hr (.inl 163) t a2).2.1 (.inl 163) s = hr.2.1 (.inl 163) s := by rw [sh_i, if_neg es]
          unfold rD
          rw [r1, r2, r3, r4]
          exact K s hs
      · rw [if_neg c3, if_neg c3]
        exact K
/-- clearing longs leaves the ints -/
theorem C316 {a : mx_A} {w : Int64} {y : Int32} {n : Nat} (hy : y.toInt = (n : Int)) (n60 : n ≤ 1000) : ∀ (j i : Nat) (x : Int32) (h : mx_H), i + j = n → x.toInt = (i : Int) → (g316_6 a w x y h).2.1 = h.2.1
  | 0, i, x, h, e, hx => by rw [g316_6_eq, if_pos (i_le hy hx (by omega))]
  | j + 1, i, x, h, e, hx => by
    rw [g316_6_eq, if_neg (i_nle hy hx (by omega)), C316 hy n60 j (i + 1) (x + 1) _ (by omega) ((i_add hx k_1 (by omega) (by omega)).trans (by omega))]
    rfl
theorem k_60 : (60 : Int32).toInt = 60 := rfl
theorem R302 {t : Nat} (ht : a1.toInt = (t : Int)) (t6 : t < 6) : ∀ (j i : Nat) (x : Int32) (h : mx_H), i + j = 60 → x.toInt = ((60 * t + i : Nat) : Int) → (g302_54 a1 x h).1 = 1 ∧ (g302_54 a1 x h).2.2.1 = h.2.1
  | 0, i, x, h, e, hx => by
    have b := i_add (i_mul k_60 ht (by omega) (by omega)) k_60 (by omega) (by omega)
    rw [g302_54_eq, if_pos (i_le b hx (by omega))]
    exact ⟨rfl, rfl⟩
  | j + 1, i, x, h, e, hx => by
    have b := i_add (i_mul k_60 ht (by omega) (by omega)) k_60 (by omega) (by omega)
    rw [g302_54_eq, if_neg (i_nle b hx (by omega))]
    exact R302 ht t6 j (i + 1) (x + 1) _ (by omega) ((i_add hx k_1 (by omega) (by omega)).trans (by omega))
theorem rt_S.x {hc' hr' : mx_H} (e1 : hc'.2.1 = hc.2.1) (e2 : hr'.2.1 = hr.2.1) (K : rt_S hc hr N) : rt_S hc' hr' N := by
  unfold rt_S rD at K ⊢
  rw [e1, e2]
  exact K
theorem C71 {t : Nat} (ht : a1.toInt = (t : Int)) : (f71 a1 a2 a3 h).2.1 = (mx_uI (mx_uI h (.inl 95) t a2) (.inl 96) t a3).2.1 := by
  rw [f71_eq, i_cl ht]
  generalize mx_uI (mx_uI h (.inl 95) t a2) (.inl 96) t a3 = g
  show (f316 (.inr (t, 20)) 0 g).2.1 = _
  rw [f316_eq]
  have l : (mx_lo (.inr (t, 20))).2 = 60 := rfl
  rw [l]
  exact C316 (n := 60) k_60 (by omega) 60 0 0 g (by omega) rfl
theorem R302r {t : Nat} {g : mx_H} (ht : a1.toInt = (t : Int)) (t6 : t < 6) : (g302_54 a1 (60 * a1) g).2.2.1 = g.2.1 := (R302 ht t6 60 0 (60 * a1) g (by omega) ((i_mul k_60 ht (by omega) (by omega)).trans (by omega))).2
theorem sh_row {t : Nat} (t6 : t < 6) (b : 0 ≤ a2.toInt ∧ a2.toInt ≤ 4) (K : rt_S hc hr N) : rt_S (mx_uI (mx_uI hc (.inl 95) t a2) (.inl 96) t a3) (mx_uI (mx_uI hr (.inl 163) t (-2 - a2)) (.inl 164) t a3) N := fun s hs => by
  have r1 : (mx_uI (mx_uI hc (.inl 95) t a2) (.inl 96) t a3).2.1 (.inl 95) s = if s = t then a2 else hc.2.1 (.inl 95) s := by
    rw [rN (show (95 : Nat) ≠ 96 by decide +kernel)]
    exact sh_i
  have r2 : (mx_uI (mx_uI hc (.inl 95) t a2) (.inl 96) t a3).2.1 (.inl 96) s = if s = t then a3 else hc.2.1 (.inl 96) s := by
    rw [sh_i, rN (show (96 : Nat) ≠ 95 by decide +kernel)]
  have r3 : (mx_uI (mx_uI hc (.inl 95) t a2) (.inl 96) t a3).2.1 (.inl 97) s = hc.2.1 (.inl 97) s := by
    rw [rN (show (97 : Nat) ≠ 96 by decide +kernel), rN (show (97 : Nat) ≠ 95 by decide +kernel)]
  have r4 : (mx_uI (mx_uI hr (.inl 163) t (-2 - a2)) (.inl 164) t a3).2.1 (.inl 163) s = if s = t then -2 - a2 else hr.2.1 (.inl 163) s := by
    rw [rN (show (163 : Nat) ≠ 164 by decide +kernel)]
    exact sh_i
  have r5 : (mx_uI (mx_uI hr (.inl 163) t (-2 - a2)) (.inl 164) t a3).2.1 (.inl 164) s = if s = t then a3 else hr.2.1 (.inl 164) s := by
    rw [sh_i, rN (show (164 : Nat) ≠ 163 by decide +kernel)]
  unfold rD
  rw [r1, r2, r3, r4, r5]
  by_cases es : s = t
  · rw [if_pos es, if_pos es, if_pos es, if_pos es]
    exact Or.inr (Or.inr ⟨a2.toInt.toNat, by omega, by omega, (i_sub k_m2 rfl (by omega) (by omega)).trans (by omega), rfl⟩)
  · rw [if_neg es, if_neg es, if_neg es, if_neg es]
    exact K s hs
theorem st_row (K : rt_S hc hr N) : rt_S (f151 a1 a2 a3 hc).2 (f302 a1 a2 a3 hr).2 N := by
  have L := f151_eq a1 a2 a3 hc
  have T := f302_eq a1 a2 a3 hr
  rw [f161_eq, w_ws, w_ws] at L
  rw [f300_eq] at T
  by_cases c1 : f173 a1 0 5 = 0
  · rw [if_pos c1] at L T
    rw [L, T]
    exact K
  · obtain ⟨t, t6, ht⟩ := sh_in c1
    rw [if_neg c1] at L T
    rw [i_cl ht] at T
    by_cases c2 : f173 a2 0 4 = 0
    · rw [if_pos c2] at L T
      rw [L, T]
      exact K
    · rw [if_neg c2] at L T
      have b : 0 ≤ a2.toInt ∧ a2.toInt ≤ 4 := Classical.byContradiction fun q => c2 (w173_0 rfl k_0 k_4 q)
      by_cases c3 : a3 ≤ 60
      · rw [if_pos c3] at L T
        by_cases c4 : 0 ≤ a3
        · rw [if_pos c4] at L T
          have E1 : (f151 a1 a2 a3 hc).2.2.1 = (mx_uI (mx_uI hc (.inl 95) t a2) (.inl 96) t a3).2.1 := by
            rw [L]
            exact C71 ht
          have E2 : (f302 a1 a2 a3 hr).2.2.1 = (mx_uI (mx_uI hr (.inl 163) t (-2 - a2)) (.inl 164) t a3).2.1 := by
            rw [T]
            exact R302r ht t6
          exact rt_S.x E1 E2 (sh_row t6 b K)
        · rw [if_neg c4] at L T
          rw [L, T]
          exact K
      · rw [if_neg c3] at L T
        rw [L, T]
        exact K
end RTG
/-! ===== row: answers alike ===== -/
section RWW
variable {hc hr : mx_H} {a1 a2 a3 : Int32}
theorem aw_row : (f151 a1 a2 a3 hc).1 = (f302 a1 a2 a3 hr).1 := by
  have L := f151_eq a1 a2 a3 hc
  have T := f302_eq a1 a2 a3 hr
  rw [f161_eq, w_ws, w_ws] at L
  rw [f300_eq] at T
  by_cases c1 : f173 a1 0 5 = 0
  · rw [if_pos c1] at L T
    rw [L, T]
  · obtain ⟨t, t6, ht⟩ := sh_in c1
    rw [if_neg c1] at L T
    by_cases c2 : f173 a2 0 4 = 0
    · rw [if_pos c2] at L T
      rw [L, T]
    · rw [if_neg c2] at L T
      by_cases c3 : a3 ≤ 60
      · rw [if_pos c3] at L T
        by_cases c4 : 0 ≤ a3
        · rw [if_pos c4] at L T
          rw [T, (R302 ht t6 60 0 (60 * a1) _ (by omega) ((i_mul k_60 ht (by omega) (by omega)).trans (by omega))).1, L]
          rfl
        · rw [if_neg c4] at L T
          rw [L, T]
      · rw [if_neg c3] at L T
        rw [L, T]
end RWW
