/-! ===== body(): alike on both sides ===== -/
section RO
variable {h hc hr : mx_H} {S N : Nat} {a : Int32}
theorem w_ws {x p q : Int32} : f157 x p q = f173 x p q := by rw [w157, w173]
def k_n (h : mx_H) (N : Nat) (a : Int32) : mx_H := mx_uI (mx_uR (mx_uI h (.inl 91) N a) (.inl 92) N none) (.inl 90) 0 (h.2.1 (.inl 90) 0 + 1)
theorem C37n (hN : rD h (.inl 90) 0 = N) (n2 : N < 200) : f37_null a h = (h.2.1 (.inl 90) 0 + 1 - 1, k_n h N a) := by
  rw [f37_null_eq, if_pos (i_lt hN k_200 (by omega))]
  show (h.2.1 (.inl 90) 0 + 1 - 1, mx_uI (mx_uR (mx_uI h (.inl 91) (Int32.toNatClampNeg (h.2.1 (.inl 90) 0)) a) (.inl 92) (Int32.toNatClampNeg (h.2.1 (.inl 90) 0)) none) (.inl 90) 0 (h.2.1 (.inl 90) 0 + 1)) = _
  rw [i_cl hN]
  rfl
def k_m (h : mx_H) (N : Nat) (a : Int32) : mx_H := mx_uI (mx_uI (mx_uI h (.inl 116) N a) (.inl 117) N 0) (.inl 105) 12 (h.2.1 (.inl 105) 12 + 1)
theorem R285 (hN : rD h (.inl 105) 12 = N) : f285 a h = if f173 a 0 5 ≠ 0 then (if h.2.1 (.inl 105) 12 ≠ 200 then (h.2.1 (.inl 105) 12 + 1 - 1, k_m h N a) else (-3, h)) else (-1, h) := by
  rw [f285_eq]
  show (if f173 a 0 5 ≠ 0 then (if h.2.1 (.inl 105) 12 ≠ 200 then (h.2.1 (.inl 105) 12 + 1 - 1, mx_uI (mx_uI (mx_uI h (.inl 116) (Int32.toNatClampNeg (h.2.1 (.inl 105) 12)) a) (.inl 117) (Int32.toNatClampNeg (h.2.1 (.inl 105) 12)) 0) (.inl 105) 12 (h.2.1 (.inl 105) 12 + 1)) else (-3, h)) else (-1, h)) = _
  rw [i_cl hN]
  rfl
theorem rs_body (A : rs_A hc hr S N) : (f147 a hc).1 = (f285 a hr).1 ∧ ∃ N', N ≤ N' ∧ rs_A (f147 a hc).2 (f285 a hr).2 S N' := by
  obtain ⟨a1, a2, a3, a4, a5, a6, a7, a8, a9, a10⟩ := id A
  rw [f147_eq, R285 a6, f162_eq, w_ws]
  by_cases c : f173 a 0 5 ≠ 0
  · rw [if_pos c, if_pos c]
    by_cases c2 : N < 200
    · rw [if_pos (i_lt a5 k_200 (by omega)), if_pos (i_ne a6 k_200 (by omega)), C37n a5 c2]
      refine ⟨?_, N + 1, by omega, a1, by omega, a3, a4, ?_, ?_, a7, a8, fun s hs => ⟨(a9 s hs).1, ?_⟩, fun i hi => ?_⟩
      · show hc.2.1 (.inl 90) 0 + 1 - 1 = hr.2.1 (.inl 105) 12 + 1 - 1
        rw [i_eq a5 a6 rfl]
      · show (hc.2.1 (.inl 90) 0 + 1).toInt = _
        rw [i_add a5 k_1 (by omega) (by omega)]
        omega
      · show (hr.2.1 (.inl 105) 12 + 1).toInt = _
        rw [i_add a6 k_1 (by omega) (by omega)]
        omega
      · obtain ⟨C, n, F, D⟩ := (a9 s hs).2
        refine ⟨C, n, F, rs_D.x (N := N) (hc := hc) (hc' := k_n hc N a) (hr := hr) (hr' := k_m hr N a) (by omega) (fun o i ho => rfl) (fun k i w => ?_) (fun i hi => ⟨?_, ?_⟩) D⟩
        · unfold rs_w at w
          show (mx_uI (mx_uI (mx_uI hr (.inl 116) N a) (.inl 117) N 0) (.inl 105) 12 (hr.2.1 (.inl 105) 12 + 1)).2.1 (.inl k) i = _
          rw [rN (by omega), rN (by omega), rN (by omega)]
        · show (mx_uI (mx_uI hr (.inl 116) N a) (.inl 117) N 0).2.1 (.inl 117) i = _
          rw [rI_i (by omega)]
          rfl
        · show (if (Sum.inl 92 : mx_A) = .inl 92 ∧ i = N then none else hc.2.2.2 (.inl 92) i) = _
          exact if_neg (fun q => by omega)
      · have e1 : (k_n hc N a).2.1 (.inl 91) i = if i = N then a else hc.2.1 (.inl 91) i := by
          show (mx_uI hc (.inl 91) N a).2.1 (.inl 91) i = _
          by_cases e : i = N
          · rw [if_pos e, rI_c rfl e]
          · rw [if_neg e, rI_i e]
        have e2 : (k_n hc N a).2.2.2 (.inl 92) i = if i = N then none else hc.2.2.2 (.inl 92) i := by
          show (if (Sum.inl 92 : mx_A) = .inl 92 ∧ i = N then none else hc.2.2.2 (.inl 92) i) = _
          by_cases e : i = N
          · rw [if_pos e, if_pos ⟨rfl, e⟩]
          · rw [if_neg e, if_neg (fun q => e q.2)]
        have e3 : (k_m hr N a).2.1 (.inl 116) i = if i = N then a else hr.2.1 (.inl 116) i := by
          show (mx_uI hr (.inl 116) N a).2.1 (.inl 116) i = _
          by_cases e : i = N
          · rw [if_pos e, rI_c rfl e]
          · rw [if_neg e, rI_i e]
        have e4 : (k_m hr N a).2.1 (.inl 117) i = if i = N then 0 else hr.2.1 (.inl 117) i := by
          show (mx_uI (mx_uI hr (.inl 116) N a) (.inl 117) N 0).2.1 (.inl 117) i = _
          by_cases e : i = N
          · rw [if_pos e, rI_c rfl e]
          · rw [if_neg e, rI_i e]
            rfl
        show (k_n hc N a).2.1 (.inl 91) i = (k_m hr N a).2.1 (.inl 116) i ∧ (((k_m hr N a).2.1 (.inl 117) i = 0 ∧ (k_n hc N a).2.2.2 (.inl 92) i = none) ∨ ∃ s k : Nat, s < S ∧ (k : Int) < rD hc (.inr (s, 0)) 6 ∧ rD hc (.inr (s, 0)) 5 + k = i)
        rw [e1, e2, e3, e4]
        by_cases e : i = N
        · rw [if_pos e, if_pos e, if_pos e, if_pos e]
          exact ⟨rfl, Or.inl ⟨rfl, rfl⟩⟩
        · rw [if_neg e, if_neg e, if_neg e, if_neg e]
          exact a10 i (by omega)
    · rw [if_neg (i_nlt a5 k_200 (by omega)), if_neg (fun q => q (i_eq a6 k_200 (by omega)))]
      exact ⟨rfl, N, Nat.le_refl _, A⟩
  · rw [if_neg c, if_neg c]
    exact ⟨rfl, N, Nat.le_refl _, A⟩
end RO
