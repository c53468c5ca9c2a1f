/-! ===== what is asked of shapes: of, piece ===== -/
section RTE
variable {h hc hr : mx_H} {S N s n C F u v c k : Nat} {a a1 a2 a3 a4 x y : Int32}
/-- a number's tens and ones -/
theorem i_ten {q : Nat} (hx : x.toInt = (q : Int)) : (x / 10).toInt = ((q / 10 : Nat) : Int) ∧ (x - x / 10 * 10).toInt = ((q % 10 : Nat) : Int) := by
  have b := i_b x
  have e := i_div (y := 10) (q := 10) hx rfl
  refine ⟨e, ?_⟩
  rw [i_sub hx (i_mul e k_10 (by omega) (by omega)) (by omega) (by omega)]
  omega
theorem k_20' : (20 : Int32).toInt = 20 := rfl
theorem k_30' : (30 : Int32).toInt = 30 := rfl
theorem k_40' : (40 : Int32).toInt = 40 := rfl
theorem k_50' : (50 : Int32).toInt = 50 := rfl
theorem aw_of (I : sf_I hr) (A : rs_A hc hr S N) : f104 a1 a2 hc = f196 a1 a2 hr := by
  obtain ⟨A1, A2, A3, A4, A5, A6, A7, A8, A9, A10⟩ := id A
  have K := f104_eq a1 a2 hc
  have T := f196_eq a1 a2 hr
  rcases C166 (a := a1) A with ⟨s, lt, h1, e1, e1'⟩ | ⟨e1, e1'⟩
  · obtain ⟨C, n, F, Ds⟩ := (A9 s lt).2
    have C6 := Ds.2.1
    have kc := Ds.2.2.2.1
    have kr := Ds.2.2.2.2.1
    have k6 := Ds.2.2.2.2.2.1
    rw [if_neg (by rw [e1']; exact n10)] at T
    have K' : f104 a1 a2 hc = if a2 ≠ 0 then (if a2 ≠ 1 then (if a2 ≠ 2 then (if a2 < 10 then (-2000000000 : Int32) else (if a2 - a2 / 10 * 10 < hc.2.1 (.inr (s, 0)) 0 then (if a2 / 10 = 1 then g104_96 a2 s hc else (if a2 / 10 = 2 then g104_106 a2 s hc else (if a2 / 10 = 3 then g104_116 a2 s hc else (if a2 / 10 = 4 then g104_126 a2 s hc else g104_136 hc)))) else -2000000000)) else f60 s hc) else hc.2.1 (.inr (s, 0)) 6) else hc.2.1 (.inr (s, 0)) 0 := by
      rw [K, e1]
      rfl
    clear K
    by_cases p : 0 ≤ a2.toInt
    · have hq : a2.toInt = ((a2.toInt.toNat : Nat) : Int) := by omega
      generalize a2.toInt.toNat = q at hq
      rw [if_pos (i_le k_0 hq (by omega))] at T
      by_cases t : 10 ≤ q
      · rw [if_pos (i_ne hq k_0 (by omega)), if_pos (i_ne hq k_1 (by omega)), if_pos (i_ne hq k_2 (by omega)), if_neg (i_nlt hq k_10 (by omega))] at K'
        rw [if_pos (i_le k_10 hq (by omega))] at T
        obtain ⟨d1, d2⟩ := i_ten hq
        rcases C164 (x := a2 - a2 / 10 * 10) h1 kc kr C6 with ⟨c, hc1, hx, g1, g1'⟩ | ⟨g1, g1'⟩
        · have hp := w6 h1 hx (show s ≤ 12 by omega) (show c < 6 by omega)
          obtain ⟨b1, b2, b3, b4⟩ := Ds.2.2.2.2.2.2.2.1 c hc1
          rw [if_pos (i_lt hx kc (by omega))] at K'
          rw [if_pos (by rw [g1']; exact n10), i_cl hp] at T
          by_cases q2 : q < 20
          · rw [if_pos (i_eq d1 k_1 (by omega)), g104_96_eq, i_cl hx, b1] at K'
            rw [if_neg (i_nle k_20' hq (by omega))] at T
            rw [K', T]
          · rw [if_neg (i_ne d1 k_1 (by omega))] at K'
            rw [if_pos (i_le k_20' hq (by omega))] at T
            by_cases q3 : q < 30
            · rw [if_pos (i_eq d1 k_2 (by omega)), g104_106_eq, i_cl hx, b2] at K'
              rw [if_neg (i_nle k_30' hq (by omega))] at T
              rw [K', T]
            · rw [if_neg (i_ne d1 k_2 (by omega))] at K'
              rw [if_pos (i_le k_30' hq (by omega))] at T
              by_cases q4 : q < 40
              · rw [if_pos (i_eq d1 k_3 (by omega)), g104_116_eq, i_cl hx, b3] at K'
                rw [if_neg (i_nle k_40' hq (by omega))] at T
                rw [K', T]
              · rw [if_neg (i_ne d1 k_3 (by omega))] at K'
                rw [if_pos (i_le k_40' hq (by omega))] at T
                by_cases q5 : q < 50
                · rw [if_pos (i_eq d1 k_4 (by omega)), g104_126_eq, i_cl hx, b4] at K'
                  rw [if_neg (i_nle k_50' hq (by omega))] at T
                  rw [K', T]
                  rcases sf_110 I (6 * s + c) with z | z
                  · rw [if_pos z, z]
                  · rw [if_neg (by rw [z]; exact n10), z]
                · rw [if_neg (i_ne d1 k_4 (by omega)), g104_136_eq] at K'
                  rw [if_pos (i_le k_50' hq (by omega))] at T
                  rw [K', T]
        · have nc : ¬ q % 10 < C := fun z => by
            rw [f164_eq, w157_1 d2 k_0 (i_sub kc k_1 (by omega) (by omega)) (by omega), if_neg n10] at g1
            exact n10 g1
          rw [if_neg (i_nlt d2 kc (by omega))] at K'
          rw [if_neg (by rw [g1']; exact fun z => z rfl)] at T
          rw [K', T]
      · rw [if_neg (i_nle k_10 hq (by omega))] at T
        by_cases z0 : q = 0
        · rw [if_neg (fun z => z (i_eq hq k_0 (by omega)))] at K' T
          rw [i_cl h1] at T
          rw [K', T]
          exact i_eq kc kr rfl
        · rw [if_pos (i_ne hq k_0 (by omega))] at K' T
          by_cases z1 : q = 1
          · rw [if_neg (fun z => z (i_eq hq k_1 (by omega)))] at K' T
            rw [K', T]
            exact i_eq k6 (R183 h1 (by omega) (sf_113 I)) (by rw [← Ds.2.2.2.2.2.2.2.2.2.2.2.1])
          · rw [if_pos (i_ne hq k_1 (by omega))] at K' T
            by_cases z2 : q = 2
            · rw [if_neg (fun z => z (i_eq hq k_2 (by omega)))] at K' T
              rw [K', T]
              exact aw_tones Ds (by omega) h1
            · rw [if_pos (i_ne hq k_2 (by omega))] at K' T
              rw [if_pos (i_lt hq k_10 (by omega))] at K'
              rw [K', T]
    · have hq : a2.toInt = a2.toInt := rfl
      rw [if_neg (i_nle k_0 hq (by omega))] at T
      rw [if_pos (i_ne hq k_0 (by omega)), if_pos (i_ne hq k_1 (by omega)), if_pos (i_ne hq k_2 (by omega)), if_pos (i_lt hq k_10 (by omega))] at K'
      rw [K', T]
  · rw [if_pos e1'] at T
    rw [K, e1, T]
    rfl
theorem aw_piece (I : sf_I hr) (A : rs_A hc hr S N) : f105 a1 a2 a3 a4 hc = f197 a1 a2 a3 a4 hr := by
  obtain ⟨A1, A2, A3, A4, A5, A6, A7, A8, A9, A10⟩ := id A
  have K := f105_eq a1 a2 a3 a4 hc
  have T := f197_eq a1 a2 a3 a4 hr
  rcases C166 (a := a1) A with ⟨s, lt, h1, e1, e1'⟩ | ⟨e1, e1'⟩
  · obtain ⟨C, n, F, Ds⟩ := (A9 s lt).2
    have C6 := Ds.2.1
    have n15 : n ≤ 15 := by
      rw [Ds.2.2.2.2.2.2.2.2.2.2.2.1]
      exact sd_C_15 _
    have K' : f105 a1 a2 a3 a4 hc = if f164 s a2 hc = 0 then (-1 : Int32) else (if f164 s a3 hc = 0 then -1 else (if f157 a4 0 2 ≠ 0 then (if 0 ≤ f61 s a2 a3 hc then (if a4 ≠ 0 then (if a4 ≠ 1 then hc.2.1 (.inr (s, 8)) (Int32.toNatClampNeg (f61 s a2 a3 hc)) else hc.2.1 (.inr (s, 7)) (Int32.toNatClampNeg (f61 s a2 a3 hc))) else hc.2.1 (.inr (s, 0)) 5 + f61 s a2 a3 hc) else -2) else -1)) := by
      rw [K, e1]
      rfl
    clear K
    rw [if_neg (by rw [e1']; exact n10)] at T
    rcases C164 (x := a2) h1 Ds.2.2.2.1 Ds.2.2.2.2.1 Ds.2.1 with ⟨u, hu, hx, g1, g1'⟩ | ⟨g1, g1'⟩
    · rw [if_neg (by rw [g1]; exact n10)] at K'
      rw [if_neg (by rw [g1']; exact n10)] at T
      rcases C164 (x := a3) h1 Ds.2.2.2.1 Ds.2.2.2.2.1 Ds.2.1 with ⟨v, hv, hy, g2, g2'⟩ | ⟨g2, g2'⟩
      · rw [if_neg (by rw [g2]; exact n10), w_ws] at K'
        rw [if_neg (by rw [g2']; exact n10)] at T
        by_cases c : f173 a4 0 2 ≠ 0
        · rw [if_pos c] at K' T
          rcases rs_pb (a := a1) Ds n15 A2 (by omega) h1 hx hy hu hv with ⟨k, hk, ne, ek, Q, f1, W⟩ | ⟨ek, un⟩
          · obtain ⟨q1, q2, q3, q4, q5, q6, q7, q8, q9⟩ := rs_k.b Q
            have f5 := Ds.2.2.2.2.2.2.1
            have fn := Ds.2.2.1
            rw [if_pos (show 0 ≤ f61 s a2 a3 hc from i_le k_0 ek (by omega)), i_cl ek] at K'
            rw [if_neg (i_ne hx hy (by omega)), if_pos (by rw [f1]; exact n10)] at T
            have T' : f197 a1 a2 a3 a4 hr = if a4 ≠ 0 then (if a4 ≠ 1 then hr.2.1 (.inl 112) (36 * s + 6 * u + v) else hr.2.1 (.inl 111) (36 * s + 6 * u + v)) else hr.2.1 (.inl 113) (36 * s + 6 * u + v) - 1 := by
              rw [T]
              show (if a4 ≠ 0 then (if a4 ≠ 1 then hr.2.1 (.inl 112) (Int32.toNatClampNeg (f179 a1 a2 a3)) else hr.2.1 (.inl 111) (Int32.toNatClampNeg (f179 a1 a2 a3))) else hr.2.1 (.inl 113) (Int32.toNatClampNeg (f179 a1 a2 a3)) - 1) = _
              rw [i_cl W]
            rw [K', T', q8, q9]
            have z : hc.2.1 (.inr (s, 0)) 5 + f61 s a2 a3 hc = hr.2.1 (.inl 113) (36 * s + 6 * u + v) - 1 := i_eq (i_add f5 ek (by omega) (by omega)) (i_sub q6 k_1 (by omega) (by omega)) (by omega)
            rw [z]
          · rw [ek, if_neg (show ¬ (0 : Int32) ≤ -1 by decide)] at K'
            rcases un with un | ⟨un, z⟩
            · rw [if_pos (i_eq hx hy (by omega))] at T
              rw [K', T]
            · rw [if_neg (i_ne hx hy (by omega)), if_neg (by rw [z]; exact fun t => t rfl)] at T
              rw [K', T]
        · rw [if_neg c] at K' T
          rw [K', T]
      · rw [if_pos g2] at K'
        rw [if_pos g2'] at T
        rw [K', T]
    · rw [if_pos g1] at K'
      rw [if_pos g1'] at T
      rw [K', T]
  · rw [if_pos e1'] at T
    rw [K, e1, T]
    rfl
end RTE
