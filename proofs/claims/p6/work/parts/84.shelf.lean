/-! ===== the shelves: what they hold, on both sides ===== -/
section RTG
variable {h hc hr : mx_H} {S N s : Nat} {a1 a2 a3 : Int32} {v : Int64}
theorem sh_in (c : ¬ f173 a1 0 5 = 0) : ∃ s : Nat, s < 6 ∧ a1.toInt = (s : Int) := by
  by_cases q : (0 : Int32).toInt ≤ a1.toInt ∧ a1.toInt ≤ (5 : Int32).toInt
  · rw [k_0, k_5] at q
    exact ⟨a1.toInt.toNat, by omega, by omega⟩
  · exact absurd (by rw [w173, if_neg q]) c
theorem st_keep (A : rs_A hc hr S N) (K : rt_S hc hr N) : rt_S (f150 a1 a2 hc).2 (f301 a1 a2 hr).2 N := by
  have e : hc.2.1 (.inl 90) 0 = hr.2.1 (.inl 105) 12 := i_eq A.2.2.2.2.1 A.2.2.2.2.2.1 rfl
  have N2 := A.2.1
  have hN := A.2.2.2.2.2.1
  rw [f150_eq, f301_eq, f161_eq, f300_eq, f163_eq, f283_eq, e, w_ws, w_ws]
  by_cases c1 : f173 a1 0 5 = 0
  · rw [if_pos c1, if_pos c1]
    exact K
  · obtain ⟨t, t6, ht⟩ := sh_in c1
    rw [if_neg c1, if_neg c1, i_cl ht]
    by_cases c2 : a2 = -1
    · rw [if_pos c2, if_pos c2]
      show rt_S (f70 a1 a2 hc) (mx_uI hr (.inl 163) t a2) N
      rw [f70_eq, i_cl ht, c2, if_neg (by decide)]
      intro s hs
      by_cases es : s = t
      · refine Or.inl ⟨?_, ?_⟩
        · show (mx_uI hc (.inl 95) t (-2)).2.1 (.inl 95) s = -2
          rw [sh_i, if_pos es]
        · rw [sh_i, if_pos es]
      · have r1 : (mx_uI (mx_uI (mx_uI hc (.inl 95) t (-2)) (.inl 97) t (if (-1 : Int32) < 0 then 0 else -1)) (.inl 96) t 0).2.1 (.inl 95) s = hc.2.1 (.inl 95) s := by
          show (mx_uI hc (.inl 95) t (-2)).2.1 (.inl 95) s = _
          rw [sh_i, if_neg es]
        have r2 : (mx_uI (mx_uI (mx_uI hc (.inl 95) t (-2)) (.inl 97) t (if (-1 : Int32) < 0 then 0 else -1)) (.inl 96) t 0).2.1 (.inl 97) s = hc.2.1 (.inl 97) s := by
          show (mx_uI (mx_uI hc (.inl 95) t (-2)) (.inl 97) t (if (-1 : Int32) < 0 then 0 else -1)).2.1 (.inl 97) s = _
          rw [sh_i, if_neg es]
          rfl
        have r3 : (mx_uI (mx_uI (mx_uI hc (.inl 95) t (-2)) (.inl 97) t (if (-1 : Int32) < 0 then 0 else -1)) (.inl 96) t 0).2.1 (.inl 96) s = hc.2.1 (.inl 96) s := by
          rw [sh_i, if_neg es]
          rfl
        have r4 : (mx_uI hr (.inl 163) t (-1)).2.1 (.inl 163) s = hr.2.1 (.inl 163) s := by rw [sh_i, if_neg es]
        unfold rD
        rw [r1, r2, r3, r4]
        exact K s hs
    · rw [if_neg c2, if_neg c2]
      by_cases c3 : f173 a2 0 (hr.2.1 (.inl 105) 12 - 1) ≠ 0
      · rw [if_pos c3, if_pos c3]
        have b : 0 ≤ a2.toInt ∧ a2.toInt ≤ (N : Int) - 1 := Classical.byContradiction fun q => c3 (w173_0 rfl k_0 (i_sub hN k_1 (by omega) (by omega)) q)
        show rt_S (f70 a1 a2 hc) (mx_uI hr (.inl 163) t a2) N
        rw [f70_eq, i_cl ht, if_pos (i_le k_0 rfl b.1), if_neg (i_nlt rfl k_0 b.1)]
        intro s hs
        by_cases es : s = t
        · refine Or.inr (Or.inl ⟨?_, a2.toInt.toNat, by omega, ?_, ?_⟩)
          · show (mx_uI hc (.inl 95) t (-1)).2.1 (.inl 95) s = -1
            rw [sh_i, if_pos es]
          · show ((mx_uI (mx_uI hc (.inl 95) t (-1)) (.inl 97) t a2).2.1 (.inl 97) s).toInt = _
            rw [sh_i, if_pos es]
            omega
          · unfold rD
            rw [sh_i, if_pos es]
            omega
        · have r1 : (mx_uI (mx_uI (mx_uI hc (.inl 95) t (-1)) (.inl 97) t a2) (.inl 96) t 0).2.1 (.inl 95) s = hc.2.1 (.inl 95) s := by
            show (mx_uI hc (.inl 95) t (-1)).2.1 (.inl 95) s = _
            rw [sh_i, if_neg es]
          have r2 : (mx_uI (mx_uI (mx_uI hc (.inl 95) t (-1)) (.inl 97) t a2) (.inl 96) t 0).2.1 (.inl 97) s = hc.2.1 (.inl 97) s := by
            show (mx_uI (mx_uI hc (.inl 95) t (-1)) (.inl 97) t a2).2.1 (.inl 97) s = _
            rw [sh_i, if_neg es]
            rfl
          have r3 : (mx_uI (mx_uI (mx_uI hc (.inl 95) t (-1)) (.inl 97) t a2) (.inl 96) t 0).2.1 (.inl 96) s = hc.2.1 (.inl 96) s := by
            rw [sh_i, if_neg es]
            rfl
          have r4 : (mx_uI hr (.inl 163) t a2).2.1 (.inl 163) s = hr.2.1 (.inl 163) s := by rw [sh_i, if_neg es]
          unfold rD
          rw [r1, r2, r3, r4]
          exact K s hs
      · rw [if_neg c3, if_neg c3]
        exact K
/-- clearing longs leaves the ints -/
theorem C316 {a : mx_A} {w : Int64} {y : Int32} {n : Nat} (hy : y.toInt = (n : Int)) (n60 : n ≤ 1000) : ∀ (j i : Nat) (x : Int32) (h : mx_H), i + j = n → x.toInt = (i : Int) → (g316_6 a w x y h).2.1 = h.2.1
  | 0, i, x, h, e, hx => by rw [g316_6_eq, if_pos (i_le hy hx (by omega))]
  | j + 1, i, x, h, e, hx => by
    rw [g316_6_eq, if_neg (i_nle hy hx (by omega)), C316 hy n60 j (i + 1) (x + 1) _ (by omega) ((i_add hx k_1 (by omega) (by omega)).trans (by omega))]
    rfl
theorem k_60 : (60 : Int32).toInt = 60 := rfl
theorem R302 {t : Nat} (ht : a1.toInt = (t : Int)) (t6 : t < 6) : ∀ (j i : Nat) (x : Int32) (h : mx_H), i + j = 60 → x.toInt = ((60 * t + i : Nat) : Int) → (g302_54 a1 x h).1 = 1 ∧ (g302_54 a1 x h).2.2.1 = h.2.1
  | 0, i, x, h, e, hx => by
    have b := i_add (i_mul k_60 ht (by omega) (by omega)) k_60 (by omega) (by omega)
    rw [g302_54_eq, if_pos (i_le b hx (by omega))]
    exact ⟨rfl, rfl⟩
  | j + 1, i, x, h, e, hx => by
    have b := i_add (i_mul k_60 ht (by omega) (by omega)) k_60 (by omega) (by omega)
    rw [g302_54_eq, if_neg (i_nle b hx (by omega))]
    exact R302 ht t6 j (i + 1) (x + 1) _ (by omega) ((i_add hx k_1 (by omega) (by omega)).trans (by omega))
theorem rt_S.x {hc' hr' : mx_H} (e1 : hc'.2.1 = hc.2.1) (e2 : hr'.2.1 = hr.2.1) (K : rt_S hc hr N) : rt_S hc' hr' N := by
  unfold rt_S rD at K ⊢
  rw [e1, e2]
  exact K
theorem C71 {t : Nat} (ht : a1.toInt = (t : Int)) : (f71 a1 a2 a3 h).2.1 = (mx_uI (mx_uI h (.inl 95) t a2) (.inl 96) t a3).2.1 := by
  rw [f71_eq, i_cl ht]
  generalize mx_uI (mx_uI h (.inl 95) t a2) (.inl 96) t a3 = g
  show (f316 (.inr (t, 20)) 0 g).2.1 = _
  rw [f316_eq]
  have l : (mx_lo (.inr (t, 20))).2 = 60 := rfl
  rw [l]
  exact C316 (n := 60) k_60 (by omega) 60 0 0 g (by omega) rfl
theorem R302r {t : Nat} {g : mx_H} (ht : a1.toInt = (t : Int)) (t6 : t < 6) : (g302_54 a1 (60 * a1) g).2.2.1 = g.2.1 := (R302 ht t6 60 0 (60 * a1) g (by omega) ((i_mul k_60 ht (by omega) (by omega)).trans (by omega))).2
theorem sh_row {t : Nat} (t6 : t < 6) (b : 0 ≤ a2.toInt ∧ a2.toInt ≤ 4) (K : rt_S hc hr N) : rt_S (mx_uI (mx_uI hc (.inl 95) t a2) (.inl 96) t a3) (mx_uI (mx_uI hr (.inl 163) t (-2 - a2)) (.inl 164) t a3) N := fun s hs => by
  have r1 : (mx_uI (mx_uI hc (.inl 95) t a2) (.inl 96) t a3).2.1 (.inl 95) s = if s = t then a2 else hc.2.1 (.inl 95) s := by
    rw [rN (show (95 : Nat) ≠ 96 by decide)]
    exact sh_i
  have r2 : (mx_uI (mx_uI hc (.inl 95) t a2) (.inl 96) t a3).2.1 (.inl 96) s = if s = t then a3 else hc.2.1 (.inl 96) s := by
    rw [sh_i, rN (show (96 : Nat) ≠ 95 by decide)]
  have r3 : (mx_uI (mx_uI hc (.inl 95) t a2) (.inl 96) t a3).2.1 (.inl 97) s = hc.2.1 (.inl 97) s := by
    rw [rN (show (97 : Nat) ≠ 96 by decide), rN (show (97 : Nat) ≠ 95 by decide)]
  have r4 : (mx_uI (mx_uI hr (.inl 163) t (-2 - a2)) (.inl 164) t a3).2.1 (.inl 163) s = if s = t then -2 - a2 else hr.2.1 (.inl 163) s := by
    rw [rN (show (163 : Nat) ≠ 164 by decide)]
    exact sh_i
  have r5 : (mx_uI (mx_uI hr (.inl 163) t (-2 - a2)) (.inl 164) t a3).2.1 (.inl 164) s = if s = t then a3 else hr.2.1 (.inl 164) s := by
    rw [sh_i, rN (show (164 : Nat) ≠ 163 by decide)]
  unfold rD
  rw [r1, r2, r3, r4, r5]
  by_cases es : s = t
  · rw [if_pos es, if_pos es, if_pos es, if_pos es]
    exact Or.inr (Or.inr ⟨a2.toInt.toNat, by omega, by omega, (i_sub k_m2 rfl (by omega) (by omega)).trans (by omega), rfl⟩)
  · rw [if_neg es, if_neg es, if_neg es, if_neg es]
    exact K s hs
theorem st_row (K : rt_S hc hr N) : rt_S (f151 a1 a2 a3 hc).2 (f302 a1 a2 a3 hr).2 N := by
  have L := f151_eq a1 a2 a3 hc
  have T := f302_eq a1 a2 a3 hr
  rw [f161_eq, w_ws, w_ws] at L
  rw [f300_eq] at T
  by_cases c1 : f173 a1 0 5 = 0
  · rw [if_pos c1] at L T
    rw [L, T]
    exact K
  · obtain ⟨t, t6, ht⟩ := sh_in c1
    rw [if_neg c1] at L T
    rw [i_cl ht] at T
    by_cases c2 : f173 a2 0 4 = 0
    · rw [if_pos c2] at L T
      rw [L, T]
      exact K
    · rw [if_neg c2] at L T
      have b : 0 ≤ a2.toInt ∧ a2.toInt ≤ 4 := Classical.byContradiction fun q => c2 (w173_0 rfl k_0 k_4 q)
      by_cases c3 : a3 ≤ 60
      · rw [if_pos c3] at L T
        by_cases c4 : 0 ≤ a3
        · rw [if_pos c4] at L T
          have E1 : (f151 a1 a2 a3 hc).2.2.1 = (mx_uI (mx_uI hc (.inl 95) t a2) (.inl 96) t a3).2.1 := by
            rw [L]
            exact C71 ht
          have E2 : (f302 a1 a2 a3 hr).2.2.1 = (mx_uI (mx_uI hr (.inl 163) t (-2 - a2)) (.inl 164) t a3).2.1 := by
            rw [T]
            exact R302r ht t6
          exact rt_S.x E1 E2 (sh_row t6 b K)
        · rw [if_neg c4] at L T
          rw [L, T]
          exact K
      · rw [if_neg c3] at L T
        rw [L, T]
        exact K
theorem k_m11 : (-11 : Int32).toInt = -11 := rfl
theorem k_m12 : (-12 : Int32).toInt = -12 := rfl
theorem k_m13 : (-13 : Int32).toInt = -13 := rfl
/-- whether there is such a place in a row, asked on both sides -/
theorem aw_pl (I : sf_I hr) (K : rt_S hc hr N) (c1 : ¬ f173 a1 0 5 = 0) : (f72 a1 hc = 0 ∧ (f74 a1 a2 hc = 1 ∧ f303 a1 a2 hr = 0 ∨ f74 a1 a2 hc = 0 ∧ f303 a1 a2 hr = -13)) ∨ (f72 a1 hc = f303 a1 a2 hr ∧ (f72 a1 hc = -11 ∨ f72 a1 hc = -12)) := by
  obtain ⟨s, s6, ht⟩ := sh_in c1
  have T := f303_eq a1 a2 hr
  rw [f300_eq, if_pos c1, i_cl ht] at T
  rw [f72_eq, f74_eq, T, i_cl ht]
  rcases K s s6 with ⟨q1, q2⟩ | ⟨q1, b, q2, q3, q4⟩ | ⟨q, q0, q1, q2, q3⟩
  · rw [q1, q2]
    exact Or.inr ⟨rfl, Or.inl rfl⟩
  · rw [q1, if_pos (by decide), if_neg (by decide), if_pos (show hr.2.1 (.inl 163) s ≠ -1 from i_ne q4 k_m1 (by omega)), if_neg (i_nlt q4 k_0 (by omega))]
    exact Or.inr ⟨rfl, Or.inr rfl⟩
  · rw [if_pos (show hc.2.1 (.inl 95) s ≠ -2 from i_ne q1 k_m2 (by omega)), if_pos (show hc.2.1 (.inl 95) s ≠ -1 from i_ne q1 k_m1 (by omega)), if_pos (show hr.2.1 (.inl 163) s ≠ -1 from i_ne q2 k_m1 (by omega)), if_pos (i_lt q2 k_0 (by omega)), q3]
    refine Or.inl ⟨rfl, ?_⟩
    obtain ⟨bb1, bb2⟩ := sf_rd (lo := 0) (hi := 60) (r := 376) I (.inl 164) s rfl (by decide)
    by_cases n0 : a2.toInt < 0
    · rw [if_pos (i_lt rfl k_0 n0)]
      refine Or.inr ⟨rfl, ?_⟩
      rw [w173_0 rfl k_0 (i_sub rfl k_1 (by omega) (by omega)) (by omega), if_pos rfl]
    · rw [if_neg (i_nlt rfl k_0 (by omega))]
      by_cases n1 : (hr.2.1 (.inl 164) s).toInt ≤ a2.toInt
      · rw [if_pos (i_le rfl rfl n1)]
        refine Or.inr ⟨rfl, ?_⟩
        rw [w173_0 rfl k_0 (i_sub rfl k_1 (by omega) (by omega)) (by omega), if_pos rfl]
      · rw [if_neg (i_nle rfl rfl (by omega))]
        refine Or.inl ⟨rfl, ?_⟩
        rw [w173_1 rfl k_0 (i_sub rfl k_1 (by omega) (by omega)) (by omega), if_neg n10]
/-- place answers alike -/
theorem aw_place (I : sf_I hr) (K : rt_S hc hr N) : (f152 a1 a2 v hc).1 = (f304 a1 a2 v hr).1 := by
  have L := f152_eq a1 a2 v hc
  have T := f304_eq a1 a2 v hr
  have T2 : 0 ≤ f303 a1 a2 hr → (f304 a1 a2 v hr).1 = 1 := fun z => by
    rw [T]
    show (if 0 ≤ f303 a1 a2 hr then _ else _ : Int32 × mx_H).1 = 1
    rw [if_pos z]
    split
    · split
      · split
        · split
          · split
            · rfl
            · rfl
          · rfl
        · rfl
      · rfl
    · rfl
  have T3 : ¬ 0 ≤ f303 a1 a2 hr → (f304 a1 a2 v hr).1 = f303 a1 a2 hr := fun z => by
    rw [T]
    show (if 0 ≤ f303 a1 a2 hr then _ else _ : Int32 × mx_H).1 = _
    rw [if_neg z]
  rw [f161_eq, w_ws] at L
  by_cases c1 : f173 a1 0 5 = 0
  · rw [if_neg (fun t => t c1)] at L
    have e : f303 a1 a2 hr = -1 := by rw [f303_eq, f300_eq, if_neg (fun t => t c1)]
    rw [L, T3 (by rw [e]; decide), e]
  · rw [if_pos c1] at L
    have L2 : f152 a1 a2 v hc = if f72 a1 hc = 0 then (if f74 a1 a2 hc ≠ 0 then (1, f76 a1 a2 v hc) else (-13, hc)) else (f72 a1 hc, hc) := L
    rcases aw_pl (a2 := a2) I K c1 with ⟨z0, ⟨z1, z2⟩ | ⟨z1, z2⟩⟩ | ⟨z0, z1⟩
    · rw [L2, if_pos z0, if_pos (by rw [z1]; exact n10), T2 (by rw [z2]; decide)]
    · rw [L2, if_pos z0, if_neg (by rw [z1]; exact fun t => t rfl), T3 (by rw [z2]; decide), z2]
    · have n0 : ¬ f72 a1 hc = 0 := by
        rcases z1 with z1 | z1
        · rw [z1]
          decide
        · rw [z1]
          decide
      have n1 : ¬ 0 ≤ f303 a1 a2 hr := by
        rw [← z0]
        rcases z1 with z1 | z1
        · rw [z1]
          decide
        · rw [z1]
          decide
      rw [L2, if_neg n0, T3 n1, z0]
end RTG
