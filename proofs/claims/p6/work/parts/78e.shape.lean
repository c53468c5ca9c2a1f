/-! ===== shape(), whatever the tape holds ===== -/
section RJ
variable {h hc hr hc' hr' : mx_H} {S N n C k : Nat}
theorem rz_FW.l {v : Int32} (a : rz_FW S hc hc') : rz_FW S (mx_uI hc (.inl 1) 1 v) (mx_uI hc' (.inl 1) 1 v) := ⟨a.1, a.2.1, fun k i q => by
  by_cases e : k = 1 ∧ i = 1
  · rw [e.1, e.2, rI_s, rI_s]
  · rw [show (mx_uI hc' (.inl 1) 1 v).2.1 (.inl k) i = hc'.2.1 (.inl k) i from if_neg (fun z => e ⟨Sum.inl.inj z.1, z.2⟩), show (mx_uI hc (.inl 1) 1 v).2.1 (.inl k) i = hc.2.1 (.inl k) i from if_neg (fun z => e ⟨Sum.inl.inj z.1, z.2⟩)]
    exact a.2.2.1 k i q, a.2.2.2⟩
theorem rz_FR.l {v : Int32} (a : rz_FR S hr hr') : rz_FR S (mx_uI hr (.inl 105) 16 v) (mx_uI hr' (.inl 105) 16 v) := ⟨a.1, a.2.1, a.2.2.1, fun k i q => by
  by_cases e : k = 105 ∧ i = 16
  · rw [e.1, e.2, rI_s, rI_s]
  · rw [show (mx_uI hr' (.inl 105) 16 v).2.1 (.inl k) i = hr'.2.1 (.inl k) i from if_neg (fun z => e ⟨Sum.inl.inj z.1, z.2⟩), show (mx_uI hr (.inl 105) 16 v).2.1 (.inl k) i = hr.2.1 (.inl k) i from if_neg (fun z => e ⟨Sum.inl.inj z.1, z.2⟩)]
    exact a.2.2.2 k i q⟩
/-- an emptied tape changes nothing else -/
theorem rs_A.e {v w : Int32} (A : rs_A hc hr S N) : rs_A (mx_uI hc (.inl 1) 1 v) (mx_uI hr (.inl 105) 16 w) S N := A
theorem rs_A.ec {v : Int32} (A : rs_A hc hr S N) : rs_A (mx_uI hc (.inl 1) 1 v) hr S N := A
theorem rs_T0 : rs_T (mx_uI hc (.inl 1) 1 0) (mx_uI hr (.inl 105) 16 0) := ⟨0, by decide, rfl, rfl, fun i hi => absurd hi (Nat.not_lt_zero _)⟩
theorem rs_T.f (T : rs_T hc hr) (a : rz_FW S hc hc') (b : rz_FR S hr hr') : rs_T hc' hr' := by
  obtain ⟨L, l, t1, t2, tb⟩ := T
  refine ⟨L, l, ?_, ?_, fun i hi => ?_⟩
  · unfold rD
    rw [a.2.2.1 1 1 (by omega)]
    exact t1
  · unfold rD
    rw [b.2.2.2 105 16 (by unfold rz_w; omega)]
    exact t2
  · unfold rD
    rw [a.2.2.1 2 i (by omega), b.2.2.2 118 i (by unfold rz_w; omega)]
    exact tb i hi
theorem R194 (h : mx_H) : f194 h = if h.2.1 (.inl 105) 1 ≠ 12 then (if (f192 h).2.1 (.inl 105) 18 < 0 then (if (f192 h).2.1 (.inl 105) 12 + (f192 h).2.1 (.inl 105) 19 ≤ 200 then g194_61 0 (mx_uI (f192 h) (.inl 105) 16 0) else (-3, f192 h)) else (-100 - (f192 h).2.1 (.inl 105) 18, mx_uI (f192 h) (.inl 105) 16 0)) else (-3, h) := f194_eq h
theorem k_N_ec {hx gc : mx_H} {M s : Nat} (B : k_B hx gc N M S) (W : rz_FW S hc hx) (hs : s < S) : rs_ec s hc (k_N gc S) := fun o i ho => by
  show (sn_f (k_G gc S) (S + 1)).2.1 (.inr (s, o)) i = _
  rw [sn_io i (by omega)]
  exact (B.2.1 (s, o) i).trans (W.2.2.2 s o i (by omega))
theorem rz_FW_r (W : rz_FW S hc hc') (i : Nat) : hc'.2.2.2 (.inl 85) i = hc.2.2.2 (.inl 85) i := by rw [show hc'.2.2.2 = hc.2.2.2 from congrArg Prod.snd W.2.1]
theorem k_N_r {hx gc : mx_H} {M i : Nat} (B : k_B hx gc N M S) (W : rz_FW S hc hx) : (k_N gc S).2.2.2 (.inl 85) i = hc.2.2.2 (.inl 85) i := by
  refine Eq.trans (show (k_N gc S).2.2.2 (.inl 85) i = gc.2.2.2 (.inl 85) i from rfl) ?_
  exact (B.2.2.2.2.1 85 i (by decide)).trans (rz_FW_r W i)
theorem rs_shape (A : rs_A hc hr S N) (T : S ≤ 11 → rs_T hc hr) (hL : 0 ≤ rD hc (.inl 1) 1 ∧ rD hc (.inl 1) 1 ≤ 120) (hb : ∀ i, 0 ≤ rD hc (.inl 2) i ∧ rD hc (.inl 2) i ≤ 255) (h7 : ∀ k, 0 ≤ rD (f103 hc).2 (.inr (S, 7)) k) :
    ∃ S' N', (S ≤ S' ∧ N ≤ N') ∧ rs_A (f103 hc).2 (f194 hr).2 S' N' ∧ (S' ≤ 11 → rs_T (f103 hc).2 (f194 hr).2) ∧ (∀ s, s < S → rs_ec s hc (f103 hc).2) ∧ ∀ i, (f103 hc).2.2.2.2 (.inl 85) i = hc.2.2.2 (.inl 85) i := by
  obtain ⟨a1, a2, a3, a4, a5, a6, a7, a8, a9, a10⟩ := id A
  have F : rz_FW S hc (f86 S hc).2 := C86F (L := (rD hc (.inl 1) 1).toNat) a1 (by omega) (by omega) hb
  rw [C103 a8 F, R194]
  have e2 : rD (f86 S hc).2 (.inl 0) 2 = S := by
    unfold rD
    rw [F.2.2.1 0 2 (by decide)]
    exact a3
  have e90 : rD (f86 S hc).2 (.inl 90) 0 = N := by
    unfold rD
    rw [F.2.2.1 90 0 (by decide)]
    exact a5
  by_cases c12 : S = 12
  · rw [if_neg (show ¬ hr.2.1 (.inl 105) 1 ≠ 12 from fun q => q (i_eq a4 k_12 (by omega)))]
    have f1 : f168 ((f86 S hc).2.2.1 (.inr (S, 0)) 6) (f86 S hc).2 = 1 := by rw [f168_eq, if_pos (i_le k_12 e2 (by omega))]
    rw [f1, if_neg n10]
    have B : rs_A (f86 S hc).2 hr S N := A.f F rz_FR.refl
    by_cases c : (f86 S hc).1 < 0
    · rw [if_pos c]
      exact ⟨S, N, ⟨Nat.le_refl _, Nat.le_refl _⟩, B, fun q => by omega, fun s hs => rs_ecF F hs, fun i => (show (f86 S hc).2.2.2.2 (.inl 85) i = _ from rz_FW_r F i)⟩
    · rw [if_neg c]
      exact ⟨S, N, ⟨Nat.le_refl _, Nat.le_refl _⟩, B.ec, fun q => by omega, fun s hs => rs_ecF F hs, fun i => (show (f86 S hc).2.2.2.2 (.inl 85) i = _ from rz_FW_r F i)⟩
  · rw [if_pos (show hr.2.1 (.inl 105) 1 ≠ 12 from i_ne a4 k_12 (by omega))]
    obtain ⟨L, l, t1, t2, tb⟩ := id (T (by omega))
    obtain ⟨C, C1, E1, ⟨o1, o2⟩, E2, E3⟩ := rz_text l t1 t2 tb a4 a1
    rcases E3 with ⟨e1, ef, n, K⟩ | ⟨e1, ef⟩
    · have n15 : n ≤ 15 := by
        rw [K.2.2.2.2.2.2.2.2.2.1]
        exact sd_C_15 _
      have k3 := K.2.2.2.1
      have k4 := K.2.2.2.2.1
      have e12 : rD (f192 hr) (.inl 105) 12 = N := by
        unfold rD
        rw [E2.2.2.2 105 12 (by unfold rz_w; omega)]
        exact a6
      have sum := i_add e12 k4 (by omega) (by omega)
      rw [e1, if_pos (show (-1 : Int32) < 0 by decide), if_pos (i_lt ef k_0 (by omega))]
      rcases C168 e2 e90 k3 a1 a2 (by omega) with ⟨q1, q2, q3⟩ | ⟨q1, q3⟩
      · rw [q3, if_pos rfl, if_pos (i_le sum k_200 (by omega))]
        have dr : (mx_uI (f86 S hc).2 (.inl 1) 1 0).2.2.2 (.inl 0) 3 = some (.inr (S, 0)) := by
          show (f86 S hc).2.2.2.2 (.inl 0) 3 = _
          rw [show (f86 S hc).2.2.2.2 = hc.2.2.2 from congrArg Prod.snd E1.2.1]
          exact a8
        rw [C169 dr]
        generalize hX : mx_uI (mx_uI (f86 S hc).2 (.inl 1) 1 0) (.inr (S, 0)) 5 ((mx_uI (f86 S hc).2 (.inl 1) 1 0).2.1 (.inl 90) 0) = hx
        have x6 : rD hx (.inr (S, 0)) 6 = n := by
          unfold rD
          rw [← hX, rI_i (by decide)]
          exact k3
        have x3 : hx.2.2.2 (.inl 0) 3 = some (.inr (S, 0)) := by
          rw [← hX]
          exact dr
        have x2 : rD hx (.inl 0) 2 = S := by
          rw [← hX]
          exact e2
        have x1 : hx.1 = 167 + 9 * S := by
          rw [← hX]
          exact E1.1.trans a7
        have x90 : rD hx (.inl 90) 0 = N := by
          rw [← hX]
          exact e90
        obtain ⟨gc, B, ec⟩ := C169g (N := N) q1 n 0 0 (h := hx) (g := hx) (by omega) rfl n15 q2 x6 x3 x2 x1 ⟨rfl, fun _ _ => rfl, fun _ _ _ _ => rfl, x90, fun _ _ _ => rfl, fun _ _ => ⟨rfl, rfl⟩, fun i h1 h2 => by omega⟩
        have K' : rz_C (mx_uI (f86 S hc).2 (.inl 1) 1 0) (mx_uI (f192 hr) (.inl 105) 16 0) S C n := K
        have s1 : rD (mx_uI (f192 hr) (.inl 105) 16 0) (.inl 105) 1 = S := by
          show rD (f192 hr) (.inl 105) 1 = S
          unfold rD
          rw [E2.2.2.2 105 1 (by unfold rz_w; omega)]
          exact a4
        obtain ⟨gr, R, er⟩ := R194g (N := N) K' a1 q2 s1 n 0 0 (by omega) rfl (k_R.z K' e12)
        have E103 : (f103 hc).2 = k_N gc S := by rw [C103 a8 F, e1, if_pos (show (-1 : Int32) < 0 by decide), q3, if_pos rfl, C169 dr, hX, ec]
        have hst : ∀ q, 0 ≤ rD (mx_uI (f86 S hc).2 (.inl 1) 1 0) (.inr (S, 7)) q := fun q => by
          have z := h7 q
          rw [E103] at z
          have z2 : (k_N gc S).2.1 (.inr (S, 7)) q = hx.2.1 (.inr (S, 7)) q := by
            show (sn_f (k_G gc S) (S + 1)).2.1 (.inr (S, 7)) q = _
            rw [sn_io q (by omega)]
            exact B.2.1 (S, 7) q
          unfold rD at z ⊢
          rw [z2, ← hX, rS (by decide)] at z
          exact z
        rw [ec, er]
        refine ⟨S + 1, N + n, ⟨by omega, by omega⟩, rs_more (hc := mx_uI hc (.inl 1) 1 0) (hr := mx_uI hr (.inl 105) 16 0) A.e q1 q2 C1 K' E1.l E2.l o1 hst hX.symm B R, fun _ => ⟨0, by decide, ?_, ?_, fun i hi => absurd hi (Nat.not_lt_zero _)⟩, fun s hs => ?_, fun i => ?_⟩
        · show (gc.2.1 (.inl 1) 1).toInt = _
          rw [B.2.2.1 1 1 (by decide) (by decide), ← hX]
          rfl
        · show (gr.2.1 (.inl 105) 16).toInt = _
          rw [R.2.2.2.2.1 16 (by decide)]
          rfl
        · have W : rz_FW S (mx_uI hc (.inl 1) 1 0) hx := by
            rw [← hX]
            exact E1.l.s (by decide)
          exact (show rs_ec s (mx_uI hc (.inl 1) 1 0) (k_N gc S) from k_N_ec B W hs)
        · have W : rz_FW S (mx_uI hc (.inl 1) 1 0) hx := by
            rw [← hX]
            exact E1.l.s (by decide)
          exact (show (k_N gc S).2.2.2 (.inl 85) i = (mx_uI hc (.inl 1) 1 0).2.2.2 (.inl 85) i from k_N_r B W)
      · rw [q3, if_neg n10, if_neg (i_nle sum k_200 (by omega))]
        exact ⟨S, N, ⟨Nat.le_refl _, Nat.le_refl _⟩, A.f E1 E2, fun q => (T q).f E1 E2, fun s hs => rs_ecF E1 hs, fun i => (show (f86 S hc).2.2.2.2 (.inl 85) i = _ from rz_FW_r E1 i)⟩
    · rw [if_neg (i_nlt rfl k_0 e1), if_neg (i_nlt rfl k_0 ef)]
      exact ⟨S, N, ⟨Nat.le_refl _, Nat.le_refl _⟩, (A.f E1 E2).e, fun _ => rs_T0, fun s hs => rs_ecF E1 hs, fun i => (show (f86 S hc).2.2.2.2 (.inl 85) i = _ from rz_FW_r E1 i)⟩
end RJ
