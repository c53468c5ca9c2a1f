/-! ===== 84yv: what was heard and the RATIOS, carried along ===== -/
section MYV
variable {hc hr h h' : mx_H} {m b n : Nat} {a1 a2 : Int32}
def rv_Mc : Nat := 600738257956778834133265139845390832888445503248198008832
def rv_Mr : Nat := 7215897085572602592951170733252525055227429990401709501004419665334253664441495300987529765225902963523846144000
def rv_b (hc hr : mx_H) : Prop := rv_h hc hr ∧ rv_r hc hr
theorem rv_c (b1 : m &&& rv_Mc = 0) (e : sf_El m h h') (R : rv_b h hr) : rv_b h' hr := by
  obtain ⟨⟨t, t6, t1, t2, t3⟩, u, u6, u1, u2, u3⟩ := R
  have x1 := e 68 0 (rt_bit (r := 156) b1 (by decide))
  have x2 := fun i => e 69 i (rt_bit (r := 162) b1 (by decide))
  have x3 := e 80 0 (rt_bit (r := 183) b1 (by decide))
  have x4 := fun i => e 81 i (rt_bit (r := 187) b1 (by decide))
  have x5 := fun i => e 82 i (rt_bit (r := 188) b1 (by decide))
  exact ⟨⟨t, t6, (congrArg Int32.toInt x1).trans t1, t2, fun i hi => (x2 i).trans (t3 i hi)⟩, u, u6, (congrArg Int32.toInt x3).trans u1, u2, fun i hi => ⟨(x4 i).trans (u3 i hi).1, (x5 i).trans (u3 i hi).2⟩⟩
theorem rv_rr (b1 : m &&& rv_Mr = 0) (e : sf_El m h h') (R : rv_b hc h) : rv_b hc h' := by
  obtain ⟨⟨t, t6, t1, t2, t3⟩, u, u6, u1, u2, u3⟩ := R
  have x1 := e 105 65 (rt_bit (r := 289) b1 (by decide))
  have x2 := fun i => e 147 i (rt_bit (r := 359) b1 (by decide))
  have x3 := e 105 83 (rt_bit (r := 307) b1 (by decide))
  have x4 := fun i => e 158 i (rt_bit (r := 370) b1 (by decide))
  have x5 := fun i => e 159 i (rt_bit (r := 371) b1 (by decide))
  exact ⟨⟨t, t6, t1, (congrArg Int32.toInt x1).trans t2, fun i hi => (t3 i hi).trans (x2 i).symm⟩, u, u6, u1, (congrArg Int32.toInt x3).trans u2, fun i hi => ⟨(u3 i hi).1.trans (x4 i).symm, (u3 i hi).2.trans (x5 i).symm⟩⟩
theorem rv_f (b1 : m &&& rv_Mc = 0) (b2 : m &&& rv_Mr = 0) (e : sf_El m h h') (R : rv_b h h) : rv_b h' h' := rv_c b1 e (rv_rr b2 e R)
theorem st_hear (R : rv_b hc hr) : (f125 a1 hc).1 = (f248 a1 hr).1 ∧ rv_b (f125 a1 hc).2 (f248 a1 hr).2 := by
  obtain ⟨⟨t, t6, t1, t2, t3⟩, R2⟩ := id R
  rw [f125_eq, f248_eq, w_ws]
  by_cases z : f173 a1 0 99 = 0
  · rw [if_neg (fun w => w z), if_neg (fun w => w z)]
    exact ⟨rfl, R⟩
  · rw [if_pos z, if_pos z]
    by_cases l : t < 6
    · have k6' : (6 : Int32).toInt = 6 := rfl
      have l1 : hc.2.1 (.inl 68) 0 < 6 := i_lt t1 k6' (by omega)
      rw [if_pos l1, if_pos (show hr.2.1 (.inl 105) 65 ≠ 6 from i_ne t2 k6' (by omega)), f12_eq, if_pos l1]
      simp only [x_h]
      have e1 : hc.2.1 (.inl 68) 0 = nI t := i_eq t1 (nI_toInt (n := t) (by omega)) rfl
      have e2 : hr.2.1 (.inl 105) 65 = nI t := i_eq t2 (nI_toInt (n := t) (by omega)) rfl
      have c1 : ∀ x : Int32, (mx_uI hc (.inl 69) t x).2.1 (.inl 68) 0 = nI t := fun x => (rI_a (ne_l (by decide))).trans e1
      have c2 : ∀ x : Int32, (mx_uI hr (.inl 147) t x).2.1 (.inl 105) 65 = nI t := fun x => (rI_a (ne_l (by decide))).trans e2
      simp only [e1, e2, nI_cl (show t < 1000 by omega), c1, c2, nI_s]
      rw [rI_s, rI_s]
      refine ⟨rfl, ⟨t + 1, by omega, ?_, ?_, fun i hi => ?_⟩, ?_⟩
      · unfold rD
        rw [rI_s]
        exact nI_toInt (by omega)
      · unfold rD
        rw [rI_s]
        exact nI_toInt (by omega)
      · refine (rI_a (ne_l (by decide))).trans (Eq.trans ?_ (rI_a (ne_l (by decide))).symm)
        by_cases q : i = t
        · rw [q, rI_s, rI_s]
        · rw [rI_i q, rI_i q]
          exact t3 i (by omega)
      · obtain ⟨u, u6, u1, u2, u3⟩ := R2
        refine ⟨u, u6, ?_, ?_, fun i hi => ?_⟩
        · unfold rD
          rw [rI_a (ne_l (by decide)), rI_a (ne_l (by decide))]
          exact u1
        · unfold rD
          rw [rI_i (by decide), rI_a (ne_l (by decide))]
          exact u2
        · rw [rI_a (ne_l (by decide)), rI_a (ne_l (by decide)), rI_a (ne_l (by decide)), rI_a (ne_l (by decide)), rI_a (ne_l (by decide)), rI_a (ne_l (by decide)), rI_a (ne_l (by decide)), rI_a (ne_l (by decide))]
          exact u3 i hi
    · have k6' : (6 : Int32).toInt = 6 := rfl
      rw [if_neg (show ¬ hc.2.1 (.inl 68) 0 < 6 from i_nlt t1 k6' (by omega)), if_neg (fun w => w (i_eq t2 k6' (by omega)))]
      exact ⟨rfl, R⟩
theorem st_unhear (R : rv_b hc hr) : (f128 hc).1 = (f249 hr).1 ∧ rv_b (f128 hc).2 (f249 hr).2 := by
  obtain ⟨⟨t, t6, t1, t2, t3⟩, u, u6, u1, u2, u3⟩ := R
  rw [f128_eq, f249_eq]
  refine ⟨i_eq t1 t2 rfl, ⟨0, by decide, ?_, ?_, fun i hi => absurd hi (Nat.not_lt_zero _)⟩, u, u6, ?_, ?_, fun i hi => ?_⟩
  · unfold rD
    rw [rI_s]
    rfl
  · unfold rD
    rw [rI_s]
    rfl
  · unfold rD
    rw [rI_a (ne_l (by decide))]
    exact u1
  · unfold rD
    rw [rI_i (by decide)]
    exact u2
  · rw [rI_a (ne_l (by decide)), rI_a (ne_l (by decide)), rI_a (ne_l (by decide)), rI_a (ne_l (by decide))]
    exact u3 i hi
theorem st_ratio (R : rv_b hc hr) : (f139 a1 a2 hc).1 = (f273 a1 a2 hr).1 ∧ rv_b (f139 a1 a2 hc).2 (f273 a1 a2 hr).2 := by
  obtain ⟨R1, u, u6, u1, u2, u3⟩ := id R
  rw [f139_eq, f273_eq, w_ws, w_ws]
  by_cases z : f173 a1 1 9 = 0
  · rw [if_pos z, if_pos z]
    exact ⟨rfl, R⟩
  · rw [if_neg z, if_neg z]
    by_cases z2 : f173 a2 1 9 = 0
    · rw [if_neg (fun w => w z2), if_neg (fun w => w z2)]
      exact ⟨rfl, R⟩
    · rw [if_pos z2, if_pos z2]
      have k6' : (6 : Int32).toInt = 6 := rfl
      by_cases l : u < 6
      · have l1 : hc.2.1 (.inl 80) 0 < 6 := i_lt u1 k6' (by omega)
        rw [if_pos l1, if_pos (show hr.2.1 (.inl 105) 83 ≠ 6 from i_ne u2 k6' (by omega)), f53_eq, if_pos l1]
        simp only [x_h]
        have e1 : hc.2.1 (.inl 80) 0 = nI u := i_eq u1 (nI_toInt (n := u) (by omega)) rfl
        have e2 : hr.2.1 (.inl 105) 83 = nI u := i_eq u2 (nI_toInt (n := u) (by omega)) rfl
        have c1 : ∀ x y : Int32, (mx_uI (mx_uI hc (.inl 81) u x) (.inl 82) u y).2.1 (.inl 80) 0 = nI u := fun x y => (rI_a (ne_l (by decide))).trans ((rI_a (ne_l (by decide))).trans e1)
        have c2 : ∀ x y : Int32, (mx_uI (mx_uI hr (.inl 158) u x) (.inl 159) u y).2.1 (.inl 105) 83 = nI u := fun x y => (rI_a (ne_l (by decide))).trans ((rI_a (ne_l (by decide))).trans e2)
        have c3 : ∀ x : Int32, (mx_uI hc (.inl 81) u x).2.1 (.inl 80) 0 = nI u := fun x => (rI_a (ne_l (by decide))).trans e1
        have c4 : ∀ x : Int32, (mx_uI hr (.inl 158) u x).2.1 (.inl 105) 83 = nI u := fun x => (rI_a (ne_l (by decide))).trans e2
        simp only [e1, e2, nI_cl (show u < 1000 by omega), c1, c2, c3, c4, nI_s]
        rw [rI_s, rI_s]
        refine ⟨rfl, ?_, u + 1, by omega, ?_, ?_, fun i hi => ?_⟩
        · obtain ⟨t, t6, t1, t2, t3⟩ := R1
          refine ⟨t, t6, ?_, ?_, fun i hi => ?_⟩
          · unfold rD
            rw [rI_a (ne_l (by decide)), rI_a (ne_l (by decide)), rI_a (ne_l (by decide))]
            exact t1
          · unfold rD
            rw [rI_i (by decide), rI_a (ne_l (by decide)), rI_a (ne_l (by decide))]
            exact t2
          · rw [rI_a (ne_l (by decide)), rI_a (ne_l (by decide)), rI_a (ne_l (by decide)), rI_a (ne_l (by decide)), rI_a (ne_l (by decide)), rI_a (ne_l (by decide))]
            exact t3 i hi
        · unfold rD
          rw [rI_s]
          exact nI_toInt (by omega)
        · unfold rD
          rw [rI_s]
          exact nI_toInt (by omega)
        · have d1 : ∀ x y z : Int32, (mx_uI (mx_uI (mx_uI hc (.inl 81) u x) (.inl 82) u y) (.inl 80) 0 z).2.1 (.inl 81) i = if i = u then x else hc.2.1 (.inl 81) i := fun x y z => by
            rw [rI_a (ne_l (by decide)), rI_a (ne_l (by decide))]
            by_cases q : i = u
            · rw [if_pos q, q, rI_s]
            · rw [if_neg q, rI_i q]
          have d2 : ∀ x y z : Int32, (mx_uI (mx_uI (mx_uI hc (.inl 81) u x) (.inl 82) u y) (.inl 80) 0 z).2.1 (.inl 82) i = if i = u then y else hc.2.1 (.inl 82) i := fun x y z => by
            rw [rI_a (ne_l (by decide))]
            by_cases q : i = u
            · rw [if_pos q, q, rI_s]
            · rw [if_neg q, rI_i q, rI_a (ne_l (by decide))]
          have d3 : ∀ x y z : Int32, (mx_uI (mx_uI (mx_uI hr (.inl 158) u x) (.inl 159) u y) (.inl 105) 83 z).2.1 (.inl 158) i = if i = u then x else hr.2.1 (.inl 158) i := fun x y z => by
            rw [rI_a (ne_l (by decide)), rI_a (ne_l (by decide))]
            by_cases q : i = u
            · rw [if_pos q, q, rI_s]
            · rw [if_neg q, rI_i q]
          have d4 : ∀ x y z : Int32, (mx_uI (mx_uI (mx_uI hr (.inl 158) u x) (.inl 159) u y) (.inl 105) 83 z).2.1 (.inl 159) i = if i = u then y else hr.2.1 (.inl 159) i := fun x y z => by
            rw [rI_a (ne_l (by decide))]
            by_cases q : i = u
            · rw [if_pos q, q, rI_s]
            · rw [if_neg q, rI_i q, rI_a (ne_l (by decide))]
          rw [d1, d2, d3, d4]
          by_cases q : i = u
          · rw [if_pos q, if_pos q, if_pos q, if_pos q]
            exact ⟨rfl, rfl⟩
          · rw [if_neg q, if_neg q, if_neg q, if_neg q]
            exact u3 i (by omega)
      · rw [if_neg (show ¬ hc.2.1 (.inl 80) 0 < 6 from i_nlt u1 k6' (by omega)), if_neg (fun w => w (i_eq u2 k6' (by omega)))]
        exact ⟨rfl, R⟩
theorem st_unratio (R : rv_b hc hr) : (f141 hc).1 = (f274 hr).1 ∧ rv_b (f141 hc).2 (f274 hr).2 := by
  obtain ⟨⟨t, t6, t1, t2, t3⟩, u, u6, u1, u2, u3⟩ := R
  rw [f141_eq, f274_eq]
  refine ⟨i_eq u1 u2 rfl, ⟨t, t6, ?_, ?_, fun i hi => ?_⟩, 0, by decide, ?_, ?_, fun i hi => absurd hi (Nat.not_lt_zero _)⟩
  · unfold rD
    rw [rI_a (ne_l (by decide))]
    exact t1
  · unfold rD
    rw [rI_i (by decide)]
    exact t2
  · rw [rI_a (ne_l (by decide)), rI_a (ne_l (by decide))]
    exact t3 i hi
  · unfold rD
    rw [rI_s]
    rfl
  · unfold rD
    rw [rI_s]
    rfl
end MYV
