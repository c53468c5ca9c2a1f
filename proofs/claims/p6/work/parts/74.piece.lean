/-! ===== a piece is read alike ===== -/
section RV
variable {hc hr h : mx_H} {L p S C n k : Nat} {a b d : Int32}
theorem ka5 : (k_ap h S n a b d).2.1 (.inr (S, 5)) k = if k = n then k_mn a b else h.2.1 (.inr (S, 5)) k := by
  unfold k_ap
  rw [rS (show 5 ≠ 0 by decide), rS (show 5 ≠ 8 by decide), rS (show 5 ≠ 7 by decide), rS (show 5 ≠ 6 by decide)]
  by_cases e : k = n
  · rw [if_pos e, rI_c rfl e]
  · rw [if_neg e, rI_i e]
theorem ka6 : (k_ap h S n a b d).2.1 (.inr (S, 6)) k = if k = n then k_mx a b else h.2.1 (.inr (S, 6)) k := by
  unfold k_ap
  rw [rS (show 6 ≠ 0 by decide), rS (show 6 ≠ 8 by decide), rS (show 6 ≠ 7 by decide)]
  by_cases e : k = n
  · rw [if_pos e, rI_c rfl e]
  · rw [if_neg e, rI_i e, rS (show 6 ≠ 5 by decide)]
theorem ka7 : (k_ap h S n a b d).2.1 (.inr (S, 7)) k = if k = n then d else h.2.1 (.inr (S, 7)) k := by
  unfold k_ap
  rw [rS (show 7 ≠ 0 by decide), rS (show 7 ≠ 8 by decide)]
  by_cases e : k = n
  · rw [if_pos e, rI_c rfl e]
  · rw [if_neg e, rI_i e, rS (show 7 ≠ 6 by decide), rS (show 7 ≠ 5 by decide)]
theorem ka8 : (k_ap h S n a b d).2.1 (.inr (S, 8)) k = if k = n then 0 else h.2.1 (.inr (S, 8)) k := by
  unfold k_ap
  rw [rS (show 8 ≠ 0 by decide)]
  by_cases e : k = n
  · rw [if_pos e, rI_c rfl e]
  · rw [if_neg e, rI_i e, rS (show 8 ≠ 7 by decide), rS (show 8 ≠ 6 by decide), rS (show 8 ≠ 5 by decide)]
theorem ka0 : (k_ap h S n a b d).2.1 (.inr (S, 0)) k = if k = 6 then h.2.1 (.inr (S, 0)) 6 + 1 else h.2.1 (.inr (S, 0)) k := by
  unfold k_ap
  by_cases e : k = 6
  · rw [if_pos e, rI_c rfl e]
  · rw [if_neg e, rI_i e, rS (show 0 ≠ 8 by decide), rS (show 0 ≠ 7 by decide), rS (show 0 ≠ 6 by decide), rS (show 0 ≠ 5 by decide)]
theorem kao {o : Nat} (h0 : o ≠ 0) (h5 : o ≠ 5) (h6 : o ≠ 6) (h7 : o ≠ 7) (h8 : o ≠ 8) : (k_ap h S n a b d).2.1 (.inr (S, o)) = h.2.1 (.inr (S, o)) := by
  unfold k_ap
  rw [rS h0, rS h8, rS h7, rS h6, rS h5]
theorem kal {q i : Nat} : (k_ap h S n a b d).2.1 (.inl q) i = h.2.1 (.inl q) i := rfl
theorem kaF {h0 : mx_H} (f : rz_FC S h0 h) : rz_FC S h0 (k_ap h S n a b d) := ((((f.s (by decide)).s (by decide)).s (by decide)).s (by decide)).s (by decide)
/-- the list of what was read -/
def k_q (g : mx_H) (x y : Int32) : mx_H := mx_uI (mx_uI (mx_uI g (.inl 119) (Int32.toNatClampNeg (g.2.1 (.inl 105) 19)) x) (.inl 120) (Int32.toNatClampNeg (g.2.1 (.inl 105) 19)) y) (.inl 105) 19 (g.2.1 (.inl 105) 19 + 1)
theorem R190 (g : mx_H) : f190 g = if 0 ≤ f189 g then (if f189 (rz_r g) < 0 then f186 (rz_r g) else if f189 (rz_r g) = f189 g then f186 (rz_r g) else if f180 (g.2.1 (.inl 105) 1) (f189 g) (f189 (rz_r g)) (rz_r g) = 0 then x_let (f188 (rz_r (rz_r g))) (fun x16 h15 => if h15.2.1 (.inl 105) 18 < 0 then k_q (f181 (h15.2.1 (.inl 105) 1) (f189 g) (f189 (rz_r g)) 0 x16 0 h15) (f189 g) (f189 (rz_r g)) else h15) else f186 (rz_r g)) else f186 g := f190_eq g
theorem C89 (S : Nat) (h : mx_H) : f89 S h = if 0 ≤ f94 S h then (if f94 S (rz_c h) < 0 then (0, rz_c h) else if f94 S (rz_c h) = f94 S h then (0, rz_c h) else if f61 S (f94 S h) (f94 S (rz_c h)) (rz_c h) < 0 then (if f93 (rz_c (rz_c h)) ≠ 0 then (1, rz_c (f63 S (f94 S h) (f94 S (rz_c h)) (f93 (rz_c (rz_c h))) (rz_c (rz_c h)))) else (0, rz_c (rz_c h))) else (0, rz_c h)) else (0, h) := f89_eq S h
theorem rz_kb {x y : Nat} (q : rz_k hc hr S C k x y) : hr.2.1 (.inl 113) (36 * S + 6 * x + y) = 1 ∧ hr.2.1 (.inl 113) (36 * S + 6 * y + x) = 1 := ⟨q.2.2.2.2.2.2.2.1, q.2.2.2.2.2.2.2.2.1⟩
/-- a pair is there on both sides, or on none -/
theorem rz_has {x y : Int32} {u v : Nat} (K : rz_C hc hr S C n) (hS : rD hr (.inl 105) 1 = S) (S11 : S ≤ 12) (hx : x.toInt = (u : Int)) (hy : y.toInt = (v : Int)) (hu : u < C) (hv : v < C) (hn : u ≠ v) :
    (¬ f61 S x y hc < 0 ∧ ¬ f180 (hr.2.1 (.inl 105) 1) x y hr = 0) ∨ (f61 S x y hc < 0 ∧ f180 (hr.2.1 (.inl 105) 1) x y hr = 0 ∧ hr.2.1 (.inl 113) (36 * S + 6 * u + v) = 0 ∧ hr.2.1 (.inl 113) (36 * S + 6 * v + u) = 0 ∧ n < 15) := by
  obtain ⟨C6, k1, k2, k3, k4, k5, k6, kP1, kP2, kP3, kP4⟩ := K
  have n15 : n ≤ 15 := by
    rw [kP3]
    exact sd_C_15 _
  have w := w179 hS hx hy (by omega) (by omega) (by omega)
  rcases kP2 u v (by omega) (by omega) with z | ⟨q, q1, q2⟩
  · have z2 : hr.2.1 (.inl 113) (36 * S + 6 * v + u) = 0 := by
      rcases kP2 v u (by omega) (by omega) with z2 | ⟨q, q1, q2⟩
      · exact z2
      · exfalso
        rcases q2 with q2 | q2
        · rw [(rz_kb q2).2] at z
          exact n10 z
        · rw [(rz_kb q2).1] at z
          exact n10 z
    refine Or.inr ⟨?_, ?_, z, z2, ?_⟩
    · rcases k61 (a := x) (b := y) k3 n15 with ⟨q, q1, q2, q3, -⟩ | ⟨-, q⟩
      · exfalso
        obtain ⟨u', v', Q⟩ := kP1 q q1
        obtain ⟨o1, o2, o3, -, -, o6, o7, o8, o9, -⟩ := Q
        unfold rD at o6 o7
        rw [q2, k_mn_v hx hy] at o6
        rw [q3, k_mx_v hx hy] at o7
        have e : (u' = u ∧ v' = v) ∨ (u' = v ∧ v' = u) := by omega
        rcases e with ⟨rfl, rfl⟩ | ⟨rfl, rfl⟩
        · rw [z] at o8
          exact absurd o8 (by decide)
        · rw [z] at o9
          exact absurd o9 (by decide)
      · rw [q]
        decide
    · rw [f180_eq, i_cl w, z]
      rfl
    · obtain ⟨c, hc1, hc2⟩ := sd_pair (show u < 6 by omega) (show v < 6 by omega) hn
      have : sd_C sd_CL (rz_g hr S) ≤ 14 := by
        refine sd_C_14 hc1 (fun q => ?_)
        have q' := of_decide_eq_true q
        rcases hc2 with rfl | rfl
        · exact q' (by rw [← Nat.add_assoc]; exact z)
        · exact q' (by rw [← Nat.add_assoc]; exact z2)
      omega
  · have z : hr.2.1 (.inl 113) (36 * S + 6 * u + v) = 1 := by
      rcases q2 with q2 | q2
      · exact (rz_kb q2).1
      · exact (rz_kb q2).2
    refine Or.inl ⟨?_, ?_⟩
    · rcases k61 (a := x) (b := y) k3 n15 with ⟨q, q1, -, -, q3⟩ | ⟨q3, -⟩
      · exact i_nlt q3 k_0 (by omega)
      · exfalso
        refine q3 q q1 ⟨?_, ?_⟩
        · rcases q2 with q2 | q2
          · exact i_eq q2.2.2.2.2.2.1 (k_mn_v hx hy) rfl
          · exact i_eq q2.2.2.2.2.2.1 (k_mn_v hx hy) (by omega)
        · rcases q2 with q2 | q2
          · exact i_eq q2.2.2.2.2.2.2.1 (k_mx_v hx hy) rfl
          · exact i_eq q2.2.2.2.2.2.2.1 (k_mx_v hx hy) (by omega)
    · rw [f180_eq, i_cl w, z]
      decide
end RV
