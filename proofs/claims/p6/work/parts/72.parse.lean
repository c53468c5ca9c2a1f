/-! ===== the parts of a text, on both sides ===== -/
theorem rS {h : mx_H} {S o o' i : Nat} {v : Int32} (ho : o ≠ o') : (mx_uI h (.inr (S, o')) i v).2.1 (.inr (S, o)) = h.2.1 (.inr (S, o)) := funext fun _ => rI_a (ne_oo ho)
theorem rN {h : mx_H} {k k' i : Nat} {v : Int32} (hk : k ≠ k') : (mx_uI h (.inl k') i v).2.1 (.inl k) = h.2.1 (.inl k) := funext fun _ => rI_a (fun e => hk (Sum.inl.inj e))
theorem rLR {h : mx_H} {k i : Nat} {q : Nat × Nat} {v : Int32} : (mx_uI h (.inr q) i v).2.1 (.inl k) = h.2.1 (.inl k) := rfl
theorem rRL {h : mx_H} {k i : Nat} {q : Nat × Nat} {v : Int32} : (mx_uI h (.inl k) i v).2.1 (.inr q) = h.2.1 (.inr q) := rfl
theorem rz_P.x {hc hc' hr hr' : mx_H} {S C n : Nat} (e5 : hc'.2.1 (.inr (S, 5)) = hc.2.1 (.inr (S, 5))) (e6 : hc'.2.1 (.inr (S, 6)) = hc.2.1 (.inr (S, 6))) (e7 : hc'.2.1 (.inr (S, 7)) = hc.2.1 (.inr (S, 7))) (e8 : hc'.2.1 (.inr (S, 8)) = hc.2.1 (.inr (S, 8)))
    (r1 : hr'.2.1 (.inl 119) = hr.2.1 (.inl 119)) (r2 : hr'.2.1 (.inl 120) = hr.2.1 (.inl 120)) (r3 : hr'.2.1 (.inl 113) = hr.2.1 (.inl 113)) (r4 : hr'.2.1 (.inl 111) = hr.2.1 (.inl 111)) (r5 : hr'.2.1 (.inl 112) = hr.2.1 (.inl 112)) (P : rz_P hc hr S C n) : rz_P hc' hr' S C n := by
  unfold rz_P rz_k rz_g rD at P ⊢
  rw [e5, e6, e7, e8, r1, r2, r3, r4, r5]
  exact P
/-- how a part ends: alike on both sides -/
def rz_O (S L C p : Nat) (hc hr : mx_H) (r : Int32 × mx_H) (hr' : mx_H) : Prop :=
  rz_FC S hc r.2 ∧ rz_FR S hr hr' ∧ ((¬ r.1 = 0 ∧ rD hr' (.inl 105) 18 = -1 ∧ ∃ p' n', p < p' ∧ rz_T r.2 hr' L p' ∧ rz_C r.2 hr' S C n') ∨ (r.1 = 0 ∧ 0 ≤ rD hr' (.inl 105) 18 ∧ 0 ≤ rD r.2 (.inl 1) 2))
theorem G34 (a1 : Int32) (h : mx_H) : g191_34 a1 h = if a1 ≠ 112 then (if f189 (rz_r h) < 0 then g191_121 a1 (f189 (rz_r h)) (rz_r h) else if a1 ≠ 115 then (if a1 ≠ 119 then (if (rz_r h).2.1 (.inl 110) (Int32.toNatClampNeg (6 * h.2.1 (.inl 105) 1 + f189 (rz_r h))) = 0 then g191_121 a1 (f189 (rz_r h)) (rz_r h) else g191_117 a1 (f189 (rz_r h)) (rz_r h)) else (if (rz_r h).2.1 (.inl 122) (Int32.toNatClampNeg (f189 (rz_r h))) = 0 then g191_121 a1 (f189 (rz_r h)) (rz_r h) else g191_117 a1 (f189 (rz_r h)) (rz_r h))) else (if (rz_r h).2.1 (.inl 121) (Int32.toNatClampNeg (f189 (rz_r h))) = 0 then g191_121 a1 (f189 (rz_r h)) (rz_r h) else g191_117 a1 (f189 (rz_r h)) (rz_r h))) else f190 (rz_r h) := g191_34_eq a1 h
theorem G131 (h : mx_H) : g191_131 h = f186 h := g191_131_eq h
theorem G117 (a1 a2 : Int32) (h : mx_H) : g191_117 a1 a2 h = f186 h := by
  rw [g191_117_eq, if_neg (show ¬ (1 : Int32) = 0 by decide), ite_self, G131]
theorem G121 (a1 a2 : Int32) (h : mx_H) : g191_121 a1 a2 h = if a2 < 0 then f186 h else if a1 ≠ 104 then (x_let (f188 (rz_r h)) (fun x3 h2 => if h2.2.1 (.inl 105) 18 < 0 then (if a1 ≠ 115 then mx_uI (mx_uI h2 (.inl 109) (Int32.toNatClampNeg (6 * h.2.1 (.inl 105) 1 + a2)) x3) (.inl 122) (Int32.toNatClampNeg a2) 1 else mx_uI (mx_uI h2 (.inl 108) (Int32.toNatClampNeg (6 * h.2.1 (.inl 105) 1 + a2)) x3) (.inl 121) (Int32.toNatClampNeg a2) 1) else h2)) else mx_uI (rz_r h) (.inl 110) (Int32.toNatClampNeg (6 * h.2.1 (.inl 105) 1 + a2)) 1 := by
  rw [g191_121_eq, if_pos (show (0 : Int32) = 0 from rfl), G131]
  rfl
section RP
variable {hc hr : mx_H} {L p S C n : Nat}
theorem G186 (hF : rD hr (.inl 105) 18 = -1) : f186 hr = mx_uI hr (.inl 105) 18 (hr.2.1 (.inl 105) 17) := by
  rw [f186_eq, if_neg (i_nle k_0 hF (by omega))]
theorem rz_bad {hr0 : mx_H} {r : Int32 × mx_H} (t : rz_T hc hr L p) (hF : rD hr (.inl 105) 18 = -1) (a : rz_FC S hc r.2) (b : rz_FR S hr0 hr) (e : r = (0, hc)) {p0 : Nat} {hc0 : mx_H} (a0 : rz_FC S hc0 r.2) : rz_O S L C p0 hc0 hr0 r (f186 hr) := by
  subst e
  refine ⟨a0, ?_, Or.inr ⟨rfl, ?_, ?_⟩⟩
  · rw [G186 hF]
    exact b.u (Or.inl ⟨rfl, Or.inr (Or.inl rfl)⟩)
  · rw [G186 hF]
    show 0 ≤ rD hr (.inl 105) 17
    rw [t.2.2.2.2.2.1]
    omega
  · show 0 ≤ rD hc (.inl 1) 2
    rw [t.2.2.2.1]
    omega
theorem rz_FRr {hr0 : mx_H} (b : rz_FR S hr0 hr) : rz_FR S hr0 (rz_r hr) := b.u (Or.inl ⟨rfl, Or.inl rfl⟩)
theorem rz_FCc {hc0 : mx_H} (a : rz_FC S hc0 hc) : rz_FC S hc0 (rz_c hc) := a.c
theorem rz_Cr (K : rz_C hc hr S C n) : rz_C hc (rz_r hr) S C n := K
theorem rz_Cc (K : rz_C hc hr S C n) : rz_C (rz_c hc) hr S C n := K
/-- h: a hold -/
theorem rz_hold (t : rz_T hc (rz_r hr) L p) (K : rz_C hc (rz_r hr) S C n) (hF : rD hr (.inl 105) 18 = -1) (hS : rD hr (.inl 105) 1 = S) (S11 : S ≤ 12) : rz_O S L C p hc hr (f90 S hc) (g191_34 104 hr) := by
  have hF' : rD (rz_r hr) (.inl 105) 18 = -1 := hF
  have hS' : rD (rz_r hr) (.inl 105) 1 = S := hS
  obtain ⟨C6, k1, k2, k3, k4, k5, k6, kP⟩ := id K
  rw [G34, if_pos (show (104 : Int32) ≠ 112 by decide), if_pos (show (104 : Int32) ≠ 115 by decide), if_pos (show (104 : Int32) ≠ 119 by decide)]
  show rz_O S L C p hc hr (f90 S hc) (if f189 (rz_r hr) < 0 then g191_121 104 (f189 (rz_r hr)) (rz_r hr) else if (rz_r hr).2.1 (.inl 110) (Int32.toNatClampNeg (6 * hr.2.1 (.inl 105) 1 + f189 (rz_r hr))) = 0 then g191_121 104 (f189 (rz_r hr)) (rz_r hr) else g191_117 104 (f189 (rz_r hr)) (rz_r hr))
  have Cq : f90 S hc = if f94 S hc < 0 then (0, hc) else if hc.2.1 (.inr (S, 4)) (Int32.toNatClampNeg (f94 S hc)) = 0 then (1, mx_uI (rz_c hc) (.inr (S, 4)) (Int32.toNatClampNeg (f94 S hc)) 1) else (0, hc) := f90_eq S hc
  rcases rz_let t C6 (by omega) k1 k2 hS' with ⟨x, k, hk, pl, hx, e1, e2⟩ | ⟨e1, e2⟩
  · have w := w6 hS hx (by omega) (by omega)
    have kk := k6 k (by omega)
    rw [e2, if_neg (i_nlt hx k_0 (by omega)), i_cl w, G121, if_neg (i_nlt hx k_0 (by omega)), if_neg (show ¬ (104 : Int32) ≠ 104 from fun q => q rfl), G117]
    rw [e1, if_neg (i_nlt hx k_0 (by omega)), i_cl hx] at Cq
    by_cases z : hc.2.1 (.inr (S, 4)) k = 0
    · rw [if_pos (by rw [← kk.2.2.1]; exact z)]
      rw [if_pos z] at Cq
      rw [Cq]
      refine ⟨(rz_FCc rz_FC.refl).s (by decide), ?_, Or.inl ⟨n10, hF, p + 1, n, by omega, ?_, ?_⟩⟩
      · refine (rz_FRr (rz_FRr rz_FR.refl)).u (Or.inr (Or.inr (Or.inl ⟨by omega, ?_⟩)))
        have := i_cl (x := 6 * (rz_r hr).2.1 (.inl 105) 1 + x) w
        omega
      · exact rz_adv t pl
      · show rz_C (mx_uI (rz_c hc) (.inr (S, 4)) k 1) (mx_uI (rz_r (rz_r hr)) (.inl 110) (Int32.toNatClampNeg (6 * hr.2.1 (.inl 105) 1 + x)) 1) S C n
        rw [i_cl w]
        refine ⟨C6, ?_, k2, ?_, k4, fun c q => ?_, fun c q => ?_, rz_P.x (rS (by decide)) (rS (by decide)) (rS (by decide)) (rS (by decide)) rfl rfl rfl rfl rfl kP⟩
        · unfold rD
          rw [rS (by decide)]
          exact k1
        · unfold rD
          rw [rS (by decide)]
          exact k3
        · rw [rS (by decide)]
          exact k5 c q
        · obtain ⟨c1, c2, c3, c4, c5⟩ := k6 c q
          rw [rS (show 2 ≠ 4 by decide), rS (show 3 ≠ 4 by decide)]
          refine ⟨c1, c2, ?_, c4, c5⟩
          by_cases e : c = k
          · subst e
            rw [rI_s, rI_s]
          · rw [rI_i e, rI_i (by omega)]
            exact c3
    · rw [if_neg (by rw [← kk.2.2.1]; exact z)]
      rw [if_neg z] at Cq
      rw [Cq]
      exact rz_bad (C := C) t hF' rz_FC.refl (rz_FRr rz_FR.refl) rfl rz_FC.refl
  · rw [e2, if_pos (show (-1 : Int32) < 0 by decide), G121, if_pos (show (-1 : Int32) < 0 by decide)]
    rw [e1, if_pos (show (-1 : Int32) < 0 by decide)] at Cq
    rw [Cq]
    exact rz_bad (C := C) t hF' rz_FC.refl (rz_FRr rz_FR.refl) rfl rz_FC.refl
/-- 115: a pad -/
theorem rz_pad (t : rz_T hc (rz_r hr) L p) (K : rz_C hc (rz_r hr) S C n) (hF : rD hr (.inl 105) 18 = -1) (hS : rD hr (.inl 105) 1 = S) (S11 : S ≤ 12) : rz_O S L C p hc hr (f91 S (.inr (S, 2)) hc) (g191_34 115 hr) := by
  have hF' : rD (rz_r hr) (.inl 105) 18 = -1 := hF
  have hS' : rD (rz_r hr) (.inl 105) 1 = S := hS
  obtain ⟨C6, k1, k2, k3, k4, k5, k6, kP⟩ := id K
  rw [G34, if_pos (show (115 : Int32) ≠ 112 by decide), if_neg (show ¬ (115 : Int32) ≠ 115 from fun q => q rfl)]
  show rz_O S L C p hc hr (f91 S (.inr (S, 2)) hc) (if f189 (rz_r hr) < 0 then g191_121 115 (f189 (rz_r hr)) (rz_r hr) else if (rz_r hr).2.1 (.inl 121) (Int32.toNatClampNeg (f189 (rz_r hr))) = 0 then g191_121 115 (f189 (rz_r hr)) (rz_r hr) else g191_117 115 (f189 (rz_r hr)) (rz_r hr))
  have Cq : f91 S (.inr (S, 2)) hc = if f94 S hc < 0 then (0, hc) else if hc.2.1 (.inr (S, 2)) (Int32.toNatClampNeg (f94 S hc)) = 0 then (if f93 (rz_c hc) ≠ 0 then (1, rz_c (mx_uI (rz_c hc) (.inr (S, 2)) (Int32.toNatClampNeg (f94 S hc)) (f93 (rz_c hc)))) else (0, rz_c hc)) else (0, hc) := f91_eq S (.inr (S, 2)) hc
  rcases rz_let t C6 (by omega) k1 k2 hS' with ⟨x, k, hk, pl, hx, e1, e2⟩ | ⟨e1, e2⟩
  · have w := w6 hS hx (by omega) (by omega)
    have kk := k6 k (by omega)
    have t' := rz_adv t pl
    rw [e2, if_neg (i_nlt hx k_0 (by omega)), i_cl hx, G121, if_neg (i_nlt hx k_0 (by omega)), if_pos (show (115 : Int32) ≠ 104 by decide), G117]
    rw [e1, if_neg (i_nlt hx k_0 (by omega)), i_cl hx] at Cq
    by_cases z : hc.2.1 (.inr (S, 2)) k = 0
    · rw [if_pos (kk.2.2.2.1.mpr z)]
      rw [if_pos z] at Cq
      rcases rz_dig t' with ⟨d, d1, d9, pl', dv, d8, -⟩ | ⟨d0, -, d8⟩
      · rw [if_pos (i_ne dv k_0 (by omega))] at Cq
        rw [Cq, d8]
        have w' : (6 * (rz_r hr).2.1 (.inl 105) 1 + x).toInt = ((6 * S + k : Nat) : Int) := w
        show rz_O S L C p hc hr _ (if (rz_r (rz_r (rz_r hr))).2.1 (.inl 105) 18 < 0 then _ else _)
        rw [if_pos (i_lt (show ((rz_r (rz_r (rz_r hr))).2.1 (.inl 105) 18).toInt = -1 from hF) k_0 (by omega)), if_neg (show ¬ (115 : Int32) ≠ 115 from fun q => q rfl), i_cl hx, i_cl w']
        refine ⟨rz_FCc ((rz_FCc rz_FC.refl).s (by decide)), ((rz_FRr (rz_FRr (rz_FRr rz_FR.refl))).u (Or.inr (Or.inr (Or.inl ⟨by omega, by omega, by omega⟩)))).u (by unfold rz_w; omega), Or.inl ⟨n10, hF, p + 2, n, by omega, rz_adv t' pl', ?_⟩⟩
        refine ⟨C6, ?_, k2, ?_, k4, fun c q => ?_, fun c q => ?_, rz_P.x (rS (by decide)) (rS (by decide)) (rS (by decide)) (rS (by decide)) rfl rfl rfl rfl rfl kP⟩
        · show ((mx_uI (rz_c hc) (.inr (S, 2)) k (f93 (rz_c hc))).2.1 (.inr (S, 0)) 0).toInt = _
          rw [rS (by decide)]
          exact k1
        · show ((mx_uI (rz_c hc) (.inr (S, 2)) k (f93 (rz_c hc))).2.1 (.inr (S, 0)) 6).toInt = _
          rw [rS (by decide)]
          exact k3
        · show (mx_uI (rz_c hc) (.inr (S, 2)) k (f93 (rz_c hc))).2.1 (.inr (S, 1)) c = _
          rw [rS (by decide)]
          exact k5 c q
        · obtain ⟨c1, c2, c3, c4, c5⟩ := k6 c q
          have dn : ¬ f93 (rz_c hc) = 0 := i_ne dv k_0 (by omega)
          show (mx_uI (rz_c hc) (.inr (S, 2)) k (f93 (rz_c hc))).2.1 (.inr (S, 2)) c = (mx_uI (rz_r (rz_r (rz_r hr))) (.inl 108) (6 * S + k) (f93 (rz_c hc))).2.1 (.inl 108) (6 * S + c) ∧ (mx_uI (rz_c hc) (.inr (S, 2)) k (f93 (rz_c hc))).2.1 (.inr (S, 3)) c = (mx_uI (rz_r (rz_r (rz_r hr))) (.inl 108) (6 * S + k) (f93 (rz_c hc))).2.1 (.inl 109) (6 * S + c) ∧ (mx_uI (rz_c hc) (.inr (S, 2)) k (f93 (rz_c hc))).2.1 (.inr (S, 4)) c = hr.2.1 (.inl 110) (6 * S + c) ∧ ((mx_uI (rz_r (rz_r (rz_r hr))) (.inl 121) k 1).2.1 (.inl 121) c = 0 ↔ (mx_uI (rz_c hc) (.inr (S, 2)) k (f93 (rz_c hc))).2.1 (.inr (S, 2)) c = 0) ∧ ((mx_uI (rz_r (rz_r (rz_r hr))) (.inl 121) k 1).2.1 (.inl 122) c = 0 ↔ (mx_uI (rz_c hc) (.inr (S, 2)) k (f93 (rz_c hc))).2.1 (.inr (S, 3)) c = 0)
          rw [rS (show 3 ≠ 2 by decide), rS (show 4 ≠ 2 by decide)]
          by_cases e : c = k
          · subst e
            rw [rI_s, rI_s, rI_s]
            exact ⟨rfl, c2, c3, ⟨fun q => absurd q n10, fun q => absurd q dn⟩, c5⟩
          · rw [rI_i e, rI_i (show 6 * S + c ≠ 6 * S + k by omega), rI_i e]
            exact ⟨c1, c2, c3, c4, c5⟩
      · rw [if_neg (fun q => q d0)] at Cq
        rw [Cq, d8]
        have hF2 : rD (rz_r (rz_r hr)) (.inl 105) 18 = -1 := hF
        have e9 : ¬ (f186 (rz_r (rz_r hr))).2.1 (.inl 105) 18 < 0 := by
          rw [G186 hF2, rI_s]
          exact i_nlt t'.2.2.2.2.2.1 k_0 (by omega)
        show rz_O S L C p hc hr _ (if (f186 (rz_r (rz_r hr))).2.1 (.inl 105) 18 < 0 then _ else f186 (rz_r (rz_r hr)))
        rw [if_neg e9]
        exact rz_bad (C := C) t' hF2 (rz_FC.refl) (rz_FRr (rz_FRr rz_FR.refl)) rfl (rz_FCc rz_FC.refl)
    · rw [if_neg (fun q => z (kk.2.2.2.1.mp q))]
      rw [if_neg z] at Cq
      rw [Cq]
      exact rz_bad (C := C) t hF' rz_FC.refl (rz_FRr rz_FR.refl) rfl rz_FC.refl
  · rw [e2, if_pos (show (-1 : Int32) < 0 by decide), G121, if_pos (show (-1 : Int32) < 0 by decide)]
    rw [e1, if_pos (show (-1 : Int32) < 0 by decide)] at Cq
    rw [Cq]
    exact rz_bad (C := C) t hF' rz_FC.refl (rz_FRr rz_FR.refl) rfl rz_FC.refl
/-- 119: a weight -/
theorem rz_wgt (t : rz_T hc (rz_r hr) L p) (K : rz_C hc (rz_r hr) S C n) (hF : rD hr (.inl 105) 18 = -1) (hS : rD hr (.inl 105) 1 = S) (S11 : S ≤ 12) : rz_O S L C p hc hr (f91 S (.inr (S, 3)) hc) (g191_34 119 hr) := by
  have hF' : rD (rz_r hr) (.inl 105) 18 = -1 := hF
  have hS' : rD (rz_r hr) (.inl 105) 1 = S := hS
  obtain ⟨C6, k1, k2, k3, k4, k5, k6, kP⟩ := id K
  rw [G34, if_pos (show (119 : Int32) ≠ 112 by decide), if_pos (show (119 : Int32) ≠ 115 by decide), if_neg (show ¬ (119 : Int32) ≠ 119 from fun q => q rfl)]
  show rz_O S L C p hc hr (f91 S (.inr (S, 3)) hc) (if f189 (rz_r hr) < 0 then g191_121 119 (f189 (rz_r hr)) (rz_r hr) else if (rz_r hr).2.1 (.inl 122) (Int32.toNatClampNeg (f189 (rz_r hr))) = 0 then g191_121 119 (f189 (rz_r hr)) (rz_r hr) else g191_117 119 (f189 (rz_r hr)) (rz_r hr))
  have Cq : f91 S (.inr (S, 3)) hc = if f94 S hc < 0 then (0, hc) else if hc.2.1 (.inr (S, 3)) (Int32.toNatClampNeg (f94 S hc)) = 0 then (if f93 (rz_c hc) ≠ 0 then (1, rz_c (mx_uI (rz_c hc) (.inr (S, 3)) (Int32.toNatClampNeg (f94 S hc)) (f93 (rz_c hc)))) else (0, rz_c hc)) else (0, hc) := f91_eq S (.inr (S, 3)) hc
  rcases rz_let t C6 (by omega) k1 k2 hS' with ⟨x, k, hk, pl, hx, e1, e2⟩ | ⟨e1, e2⟩
  · have w := w6 hS hx (by omega) (by omega)
    have kk := k6 k (by omega)
    have t' := rz_adv t pl
    rw [e2, if_neg (i_nlt hx k_0 (by omega)), i_cl hx, G121, if_neg (i_nlt hx k_0 (by omega)), if_pos (show (119 : Int32) ≠ 104 by decide), G117]
    rw [e1, if_neg (i_nlt hx k_0 (by omega)), i_cl hx] at Cq
    by_cases z : hc.2.1 (.inr (S, 3)) k = 0
    · rw [if_pos (kk.2.2.2.2.mpr z)]
      rw [if_pos z] at Cq
      rcases rz_dig t' with ⟨d, d1, d9, pl', dv, d8, -⟩ | ⟨d0, -, d8⟩
      · rw [if_pos (i_ne dv k_0 (by omega))] at Cq
        rw [Cq, d8]
        have w' : (6 * (rz_r hr).2.1 (.inl 105) 1 + x).toInt = ((6 * S + k : Nat) : Int) := w
        show rz_O S L C p hc hr _ (if (rz_r (rz_r (rz_r hr))).2.1 (.inl 105) 18 < 0 then _ else _)
        rw [if_pos (i_lt (show ((rz_r (rz_r (rz_r hr))).2.1 (.inl 105) 18).toInt = -1 from hF) k_0 (by omega)), if_pos (show (119 : Int32) ≠ 115 by decide), i_cl hx, i_cl w']
        refine ⟨rz_FCc ((rz_FCc rz_FC.refl).s (by decide)), ((rz_FRr (rz_FRr (rz_FRr rz_FR.refl))).u (Or.inr (Or.inr (Or.inl ⟨by omega, by omega, by omega⟩)))).u (by unfold rz_w; omega), Or.inl ⟨n10, hF, p + 2, n, by omega, rz_adv t' pl', ?_⟩⟩
        refine ⟨C6, ?_, k2, ?_, k4, fun c q => ?_, fun c q => ?_, rz_P.x (rS (by decide)) (rS (by decide)) (rS (by decide)) (rS (by decide)) rfl rfl rfl rfl rfl kP⟩
        · show ((mx_uI (rz_c hc) (.inr (S, 3)) k (f93 (rz_c hc))).2.1 (.inr (S, 0)) 0).toInt = _
          rw [rS (by decide)]
          exact k1
        · show ((mx_uI (rz_c hc) (.inr (S, 3)) k (f93 (rz_c hc))).2.1 (.inr (S, 0)) 6).toInt = _
          rw [rS (by decide)]
          exact k3
        · show (mx_uI (rz_c hc) (.inr (S, 3)) k (f93 (rz_c hc))).2.1 (.inr (S, 1)) c = _
          rw [rS (by decide)]
          exact k5 c q
        · obtain ⟨c1, c2, c3, c4, c5⟩ := k6 c q
          have dn : ¬ f93 (rz_c hc) = 0 := i_ne dv k_0 (by omega)
          show (mx_uI (rz_c hc) (.inr (S, 3)) k (f93 (rz_c hc))).2.1 (.inr (S, 2)) c = (mx_uI (rz_r (rz_r (rz_r hr))) (.inl 109) (6 * S + k) (f93 (rz_c hc))).2.1 (.inl 108) (6 * S + c) ∧ (mx_uI (rz_c hc) (.inr (S, 3)) k (f93 (rz_c hc))).2.1 (.inr (S, 3)) c = (mx_uI (rz_r (rz_r (rz_r hr))) (.inl 109) (6 * S + k) (f93 (rz_c hc))).2.1 (.inl 109) (6 * S + c) ∧ (mx_uI (rz_c hc) (.inr (S, 3)) k (f93 (rz_c hc))).2.1 (.inr (S, 4)) c = hr.2.1 (.inl 110) (6 * S + c) ∧ ((mx_uI (rz_r (rz_r (rz_r hr))) (.inl 122) k 1).2.1 (.inl 121) c = 0 ↔ (mx_uI (rz_c hc) (.inr (S, 3)) k (f93 (rz_c hc))).2.1 (.inr (S, 2)) c = 0) ∧ ((mx_uI (rz_r (rz_r (rz_r hr))) (.inl 122) k 1).2.1 (.inl 122) c = 0 ↔ (mx_uI (rz_c hc) (.inr (S, 3)) k (f93 (rz_c hc))).2.1 (.inr (S, 3)) c = 0)
          rw [rS (show 2 ≠ 3 by decide), rS (show 4 ≠ 3 by decide)]
          by_cases e : c = k
          · subst e
            rw [rI_s, rI_s, rI_s]
            exact ⟨c1, rfl, c3, c4, ⟨fun q => absurd q n10, fun q => absurd q dn⟩⟩
          · rw [rI_i (b := .inr (S, 3)) e, rI_i (b := .inl 109) (show 6 * S + c ≠ 6 * S + k by omega), rI_i (b := .inl 122) e]
            exact ⟨c1, c2, c3, c4, c5⟩
      · rw [if_neg (fun q => q d0)] at Cq
        rw [Cq, d8]
        have hF2 : rD (rz_r (rz_r hr)) (.inl 105) 18 = -1 := hF
        have e9 : ¬ (f186 (rz_r (rz_r hr))).2.1 (.inl 105) 18 < 0 := by
          rw [G186 hF2, rI_s]
          exact i_nlt t'.2.2.2.2.2.1 k_0 (by omega)
        show rz_O S L C p hc hr _ (if (f186 (rz_r (rz_r hr))).2.1 (.inl 105) 18 < 0 then _ else f186 (rz_r (rz_r hr)))
        rw [if_neg e9]
        exact rz_bad (C := C) t' hF2 (rz_FC.refl) (rz_FRr (rz_FRr rz_FR.refl)) rfl (rz_FCc rz_FC.refl)
    · rw [if_neg (fun q => z (kk.2.2.2.2.mp q))]
      rw [if_neg z] at Cq
      rw [Cq]
      exact rz_bad (C := C) t hF' rz_FC.refl (rz_FRr rz_FR.refl) rfl rz_FC.refl
  · rw [e2, if_pos (show (-1 : Int32) < 0 by decide), G121, if_pos (show (-1 : Int32) < 0 by decide)]
    rw [e1, if_pos (show (-1 : Int32) < 0 by decide)] at Cq
    rw [Cq]
    exact rz_bad (C := C) t hF' rz_FC.refl (rz_FRr rz_FR.refl) rfl rz_FC.refl
end RP
