section RQ
variable {h hc hr gc gr : mx_H} {S N n C M k : Nat}
/-- the reference's piece more: set, then born -/
theorem R_add {s x y d e : Int32} {u v : Nat} (hs : s.toInt = (S : Int)) (hx : x.toInt = (u : Int)) (hy : y.toInt = (v : Int)) (hN : rD hr (.inl 105) 12 = N) (S12 : S ≤ 12) (hu : u < 6) (hv : v < 6) (hn : u ≠ v) (hG : gr = f193 s x y (f181 s x y (hr.2.1 (.inl 105) 12) d e hr)) :
    gr.1 = hr.1 ∧ gr.2.2 = hr.2.2 ∧ (∀ q i, gr.2.1 (.inr q) i = hr.2.1 (.inr q) i) ∧ (∀ i, gr.2.1 (.inl 113) i = if i = 36 * S + 6 * v + u then hr.2.1 (.inl 105) 12 + 1 else if i = 36 * S + 6 * u + v then hr.2.1 (.inl 105) 12 + 1 else hr.2.1 (.inl 113) i) ∧
    (∀ i, gr.2.1 (.inl 111) i = if i = 36 * S + 6 * v + u then d else if i = 36 * S + 6 * u + v then d else hr.2.1 (.inl 111) i) ∧ (∀ i, gr.2.1 (.inl 112) i = if i = 36 * S + 6 * v + u then e else if i = 36 * S + 6 * u + v then e else hr.2.1 (.inl 112) i) ∧
    (∀ i, gr.2.1 (.inl 116) i = if i = N then 1 else hr.2.1 (.inl 116) i) ∧ (∀ i, gr.2.1 (.inl 117) i = if i = N then f179 s x y + 1 else hr.2.1 (.inl 117) i) ∧ gr.2.1 (.inl 105) 12 = hr.2.1 (.inl 105) 12 + 1 ∧ (∀ i, i ≠ 12 → gr.2.1 (.inl 105) i = hr.2.1 (.inl 105) i) ∧
    ∀ q i, q ≠ 105 → q ≠ 111 → q ≠ 112 → q ≠ 113 → q ≠ 116 → q ≠ 117 → gr.2.1 (.inl q) i = hr.2.1 (.inl q) i := by
  have m1 : ¬ 36 * S + 6 * u + v = 36 * S + 6 * v + u := by omega
  rw [k181 hs hx hy S12 hu hv] at hG
  generalize hh : k_p (k_p hr (36 * S + 6 * u + v) (hr.2.1 (.inl 105) 12) d e) (36 * S + 6 * v + u) (hr.2.1 (.inl 105) 12) d e = h at hG
  have t12 : h.2.1 (.inl 105) 12 = hr.2.1 (.inl 105) 12 := by
    rw [← hh]
    rfl
  have t113 : ∀ i, h.2.1 (.inl 113) i = if i = 36 * S + 6 * v + u then hr.2.1 (.inl 105) 12 + 1 else if i = 36 * S + 6 * u + v then hr.2.1 (.inl 105) 12 + 1 else hr.2.1 (.inl 113) i := fun i => by rw [← hh, k_p3, k_p3]
  have t111 : ∀ i, h.2.1 (.inl 111) i = if i = 36 * S + 6 * v + u then d else if i = 36 * S + 6 * u + v then d else hr.2.1 (.inl 111) i := fun i => by rw [← hh, k_p1, k_p1]
  have t112 : ∀ i, h.2.1 (.inl 112) i = if i = 36 * S + 6 * v + u then e else if i = 36 * S + 6 * u + v then e else hr.2.1 (.inl 112) i := fun i => by rw [← hh, k_p2, k_p2]
  have d1 : h.2.1 (.inl 111) (36 * S + 6 * u + v) = d := by rw [t111, if_neg m1, if_pos rfl]
  have d2 : h.2.1 (.inl 112) (36 * S + 6 * u + v) = e := by rw [t112, if_neg m1, if_pos rfl]
  rw [R193 hs hx hy (show rD h (.inl 105) 12 = N by unfold rD; rw [t12]; exact hN) S12 hu hv, d1, d2, t12] at hG
  refine ⟨?_, ?_, fun q i => ?_, fun i => ?_, fun i => ?_, fun i => ?_, fun i => ?_, fun i => ?_, ?_, fun i hi => ?_, fun q i q0 q1 q2 q3 q4 q5 => ?_⟩
  · rw [hG, ← hh]
    rfl
  · rw [hG, ← hh]
    rfl
  · rw [hG, ← hh]
    rfl
  · rw [hG]
    show (k_p (k_p (mx_uI (mx_uI h (.inl 116) N 1) (.inl 117) N (f179 s x y + 1)) (36 * S + 6 * u + v) (hr.2.1 (.inl 105) 12) d e) (36 * S + 6 * v + u) (hr.2.1 (.inl 105) 12) d e).2.1 (.inl 113) i = _
    rw [k_p3, k_p3]
    show (if i = 36 * S + 6 * v + u then hr.2.1 (.inl 105) 12 + 1 else if i = 36 * S + 6 * u + v then hr.2.1 (.inl 105) 12 + 1 else h.2.1 (.inl 113) i) = _
    rw [t113]
    by_cases e1 : i = 36 * S + 6 * v + u
    · rw [if_pos e1, if_pos e1]
    · rw [if_neg e1, if_neg e1]
      by_cases e2 : i = 36 * S + 6 * u + v
      · rw [if_pos e2, if_pos e2]
      · rw [if_neg e2, if_neg e2]
  · rw [hG]
    show (k_p (k_p (mx_uI (mx_uI h (.inl 116) N 1) (.inl 117) N (f179 s x y + 1)) (36 * S + 6 * u + v) (hr.2.1 (.inl 105) 12) d e) (36 * S + 6 * v + u) (hr.2.1 (.inl 105) 12) d e).2.1 (.inl 111) i = _
    rw [k_p1, k_p1]
    show (if i = 36 * S + 6 * v + u then d else if i = 36 * S + 6 * u + v then d else h.2.1 (.inl 111) i) = _
    rw [t111]
    by_cases e1 : i = 36 * S + 6 * v + u
    · rw [if_pos e1, if_pos e1]
    · rw [if_neg e1, if_neg e1]
      by_cases e2 : i = 36 * S + 6 * u + v
      · rw [if_pos e2, if_pos e2]
      · rw [if_neg e2, if_neg e2]
  · rw [hG]
    show (k_p (k_p (mx_uI (mx_uI h (.inl 116) N 1) (.inl 117) N (f179 s x y + 1)) (36 * S + 6 * u + v) (hr.2.1 (.inl 105) 12) d e) (36 * S + 6 * v + u) (hr.2.1 (.inl 105) 12) d e).2.1 (.inl 112) i = _
    rw [k_p2, k_p2]
    show (if i = 36 * S + 6 * v + u then e else if i = 36 * S + 6 * u + v then e else h.2.1 (.inl 112) i) = _
    rw [t112]
    by_cases e1 : i = 36 * S + 6 * v + u
    · rw [if_pos e1, if_pos e1]
    · rw [if_neg e1, if_neg e1]
      by_cases e2 : i = 36 * S + 6 * u + v
      · rw [if_pos e2, if_pos e2]
      · rw [if_neg e2, if_neg e2]
  · rw [hG]
    show (mx_uI h (.inl 116) N 1).2.1 (.inl 116) i = _
    by_cases e1 : i = N
    · rw [if_pos e1, rI_c rfl e1]
    · rw [if_neg e1, rI_i e1, ← hh]
      rfl
  · rw [hG]
    show (mx_uI (mx_uI h (.inl 116) N 1) (.inl 117) N (f179 s x y + 1)).2.1 (.inl 117) i = _
    by_cases e1 : i = N
    · rw [if_pos e1, rI_c rfl e1]
    · rw [if_neg e1, rI_i e1, ← hh]
      rfl
  · rw [hG, rI_s]
  · rw [hG, rI_i hi, ← hh]
    rfl
  · rw [hG, rN q0, k_po q1 q2 q3, k_po q1 q2 q3, rN q5, rN q4, ← hh, k_po q1 q2 q3, k_po q1 q2 q3]
end RQ
