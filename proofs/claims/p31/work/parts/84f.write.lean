/-! ===== write: how many, on both sides ===== -/
section BY
variable {h g hc hr : mx_H} {S N s c n : Nat} {a a1 a2 a3 a4 a5 a6 a7 x y : Int32}
theorem bw_136 (hn : a6.toInt = (n : Int)) (n60 : n ≤ 60) : ∀ (j c : Nat) (a7 : Int32) {g : mx_H}, c + j = n → a7.toInt = (c : Int) → (g136_105 a1 a2 a3 a6 a7 g).1 = a6
  | 0, c, a7, g, e, ha => by
    rw [g136_105_eq, if_pos (i_le hn ha (by omega))]
  | j + 1, c, a7, g, e, ha => by
    rw [g136_105_eq, if_neg (i_nle hn ha (by omega))]
    simp only [x_h]
    exact bw_136 hn n60 j (c + 1) (a7 + 1) (by omega) ((i_add ha k_1 (by omega) (by omega)).trans (by omega))
theorem bw_266 {i z t b : Nat} (hb : b < 6) (h2 : a2.toInt = (b : Int)) (h3 : a3.toInt = (i : Int)) (h4 : a4.toInt = (t : Int)) (hz : rD hr (.inl 164) b = z) (hs : rD hr (.inl 105) 74 = s) (l1 : i < z) (l2 : z ≤ 60) (l3 : t ≤ 60) (l4 : s ≤ 200) (en : n = min t (min s (z - i))) : ∀ (j c : Nat) (a6 : Int32) {g : mx_H}, c + j = n → a6.toInt = (c : Int) → g.2.1 = hr.2.1 → (g266_106 a1 a2 a3 a4 a5 a6 g).1.toInt = n
  | 0, c, a6, g, e, ha, eg => by
    have e3 := i_add h3 ha (by omega) (by omega)
    rw [g266_106_eq, eg, i_cl h2]
    by_cases q1 : t ≤ c
    · rw [if_pos (i_le h4 ha (by omega))]
      exact ha.trans (by omega)
    · rw [if_neg (i_nle h4 ha (by omega))]
      by_cases q2 : s ≤ c
      · rw [if_pos (i_le hs ha (by omega))]
        exact ha.trans (by omega)
      · rw [if_neg (i_nle hs ha (by omega)), if_pos (i_le hz e3 (by omega))]
        exact ha.trans (by omega)
  | j + 1, c, a6, g, e, ha, eg => by
    have e3 := i_add h3 ha (by omega) (by omega)
    have ha' := (i_add ha k_1 (by omega) (by omega)).trans (show (c : Int) + 1 = ((c + 1 : Nat) : Int) by omega)
    have st := fun (g' : mx_H) (eg' : g'.2.1 = hr.2.1) => bw_266 hb h2 h3 h4 hz hs l1 l2 l3 l4 en j (c + 1) (a6 + 1) (g := g') (by omega) ha' eg'
    rw [g266_106_eq, eg, i_cl h2, if_neg (i_nle h4 ha (by omega)), if_neg (i_nle hs ha (by omega)), if_neg (i_nle hz e3 (by omega))]
    split
    · split
      · exact st _ eg
      · exact st _ eg
    · exact st _ eg
theorem aw_write (I : sf_I hr) (K : rt_S hc hr N) (X : rb_X hc hr) : (f136 a1 a2 a3 a4 hc).1 = (f266 a1 a2 a3 a4 hr).1 := by
  obtain ⟨b1, b2⟩ := sf_rd (lo := 0) (hi := 200) (r := 298) I (.inl 105) 74 rfl (by decide)
  rw [f136_eq, f266_eq, f160_eq, f255_eq, f161_eq, f300_eq, w_ws, w_ws, w_ws, X.2.1]
  by_cases c : f173 a1 0 3 = 0
  · rw [if_pos c, if_pos c]
  · rw [if_neg c, if_neg c]
    obtain ⟨e, he, e4⟩ := bw_ear c
    by_cases c1 : f173 a2 0 5 = 0
    · rw [if_pos c1, if_pos c1]
    · rw [if_neg c1, if_neg c1]
      obtain ⟨b, b6, hb⟩ := sh_in c1
      by_cases c2 : f173 a4 1 60 ≠ 0
      · rw [if_pos c2, if_pos c2]
        have q4 : 1 ≤ a4.toInt ∧ a4.toInt ≤ 60 := by
          rw [w173, k_1, show (60 : Int32).toInt = 60 from rfl] at c2
          by_cases q : 1 ≤ a4.toInt ∧ a4.toInt ≤ 60
          · exact q
          · exact absurd (if_neg q) c2
        by_cases c3 : hr.2.1 (.inl 105) 74 = 0
        · have e7 : f7 a1 hc = 0 := by
            rw [f7_eq, X.2.1, c3, if_pos (by decide)]
          rw [if_pos c3, e7, if_neg (fun w => w rfl)]
        · rw [if_neg c3, i_cl he, i_cl hb]
          have p1 : 1 ≤ (hr.2.1 (.inl 105) 74).toInt := by
            have : (hr.2.1 (.inl 105) 74).toInt ≠ 0 := fun w => c3 (i_eq w k_0 rfl)
            omega
          rw [bw_7 X he e4 p1]
          by_cases z : hr.2.1 (.inl 150) e < 0
          · rw [if_pos z, if_neg (fun w => w rfl), if_neg (fun w => Int32.not_le.mpr z w)]
          · rw [if_neg z, if_pos n10, if_pos (Int32.not_lt.mp z), f73_eq, i_cl hb]
            simp only [x_val]
            rcases K b b6 with ⟨k1, k2⟩ | ⟨k1, v, k3, k4, k5⟩ | ⟨t, t4, k1, k2, k3⟩
            · rw [k1, k2]
              rfl
            · have k5' : (hr.2.1 (.inl 163) b).toInt = (v : Int) := k5
              rw [k1, if_pos (i_ne k5' k_m1 (by omega)), f264_eq, i_cl hb, if_pos (i_lt k_m2 k5' (by omega)), if_neg (show ¬ (0 : Int32) ≠ 0 from fun w => w rfl)]
              have e1 : (if (-1 : Int32) ≠ -2 then (if f157 (-1) 0 2 = 0 then (-12 : Int32) else 0) else -11) = -12 := by
                rw [if_pos (by decide), w157_0 (p := -1) rfl k_0 k_2 (by decide), if_pos rfl]
              rw [e1, if_neg (by decide)]
            · have k1' : (hc.2.1 (.inl 95) b).toInt = (t : Int) := k1
              have k2' : (hr.2.1 (.inl 163) b).toInt = -2 - (t : Int) := k2
              rw [if_pos (i_ne k1' k_m2 (by omega)), if_pos (i_ne k2' k_m1 (by omega)), f264_eq, i_cl hb, if_neg (i_nlt k_m2 k2' (by omega))]
              by_cases t2 : t ≤ 2
              · rw [w157_1 k1' k_0 k_2 (by omega), if_neg n10, if_pos rfl, if_neg (i_nlt k2' (show (-4 : Int32).toInt = -4 from rfl) (by omega)), if_pos n10]
                have bz := sf_rd (lo := 0) (hi := 60) (r := 376) I (.inl 164) b rfl (by decide)
                obtain ⟨bz1, bz2⟩ := bz
                have hz : (hr.2.1 (.inl 164) b).toInt = (((hr.2.1 (.inl 164) b).toInt.toNat : Nat) : Int) := by omega
                generalize hzv : (hr.2.1 (.inl 164) b).toInt.toNat = zv at hz
                have z1 := i_sub hz k_1 (by omega) (by omega)
                rw [f74_eq, i_cl hb, k3]
                by_cases p0 : a3 < 0
                · have := Int32.lt_iff_toInt_lt.mp p0
                  rw [k_0] at this
                  rw [if_pos p0, if_neg (fun w => w rfl), w173_0 rfl k_0 z1 (by omega), if_neg (fun w => w rfl)]
                · have q0 : 0 ≤ a3.toInt := by
                    have := Int32.le_iff_toInt_le.mp (Int32.not_lt.mp p0)
                    rw [k_0] at this
                    exact this
                  rw [if_neg p0]
                  have h3 : a3.toInt = ((a3.toInt.toNat : Nat) : Int) := by omega
                  generalize a3.toInt.toNat = i at h3
                  by_cases p3 : zv ≤ i
                  · rw [if_pos (i_le hz h3 (by omega)), if_neg (fun w => w rfl), w173_0 h3 k_0 z1 (by omega), if_neg (fun w => w rfl)]
                  · rw [if_neg (i_nle hz h3 (by omega)), if_pos n10, w173_1 h3 k_0 z1 (by omega), if_pos n10]
                    have hs : (hr.2.1 (.inl 105) 74).toInt = (((hr.2.1 (.inl 105) 74).toInt.toNat : Nat) : Int) := by omega
                    generalize hsv : (hr.2.1 (.inl 105) 74).toInt.toNat = sv at hs
                    have h4 : a4.toInt = ((a4.toInt.toNat : Nat) : Int) := by omega
                    generalize a4.toInt.toNat = tv at h4
                    have d := i_sub hz h3 (by omega) (by omega)
                    have w1 : (if hr.2.1 (.inl 105) 74 < hr.2.1 (.inl 164) b - a3 then hr.2.1 (.inl 105) 74 else hr.2.1 (.inl 164) b - a3).toInt = ((min sv (zv - i) : Nat) : Int) := by
                      by_cases q : sv < zv - i
                      · rw [if_pos (i_lt hs d (by omega)), hs]
                        omega
                      · rw [if_neg (i_nlt hs d (by omega)), d]
                        omega
                    have w2 : (if (if hr.2.1 (.inl 105) 74 < hr.2.1 (.inl 164) b - a3 then hr.2.1 (.inl 105) 74 else hr.2.1 (.inl 164) b - a3) < a4 then (if hr.2.1 (.inl 105) 74 < hr.2.1 (.inl 164) b - a3 then hr.2.1 (.inl 105) 74 else hr.2.1 (.inl 164) b - a3) else a4).toInt = ((min tv (min sv (zv - i)) : Nat) : Int) := by
                      by_cases q : min sv (zv - i) < tv
                      · rw [if_pos (i_lt w1 h4 (by omega)), w1]
                        omega
                      · rw [if_neg (i_nlt w1 h4 (by omega)), h4]
                        omega
                    rw [bw_136 w2 (by omega) _ 0 0 (Nat.zero_add _) rfl]
                    exact i_eq w2 (bw_266 (n := min tv (min sv (zv - i))) b6 hb h3 h4 hz hs (by omega) (by omega) (by omega) (by omega) rfl _ 0 0 (Nat.zero_add _) rfl rfl) rfl
              · rw [w157_0 k1' k_0 k_2 (by omega), if_pos rfl, if_neg (by decide), if_pos (i_lt k2' (show (-4 : Int32).toInt = -4 from rfl) (by omega)), if_neg (fun w => w rfl)]
      · rw [if_neg c2, if_neg c2]
end BY
