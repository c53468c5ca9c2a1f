/-! ===== a draft that grows piece by piece, bodies born at once ===== -/
section RQ
variable {h hc hr gc gr : mx_H} {S N n C M k : Nat}
/-- M pieces are there, of bodies N, N + 1, .. -/
def rj_J (hc hr : mx_H) (S C N M : Nat) : Prop := C ≤ 6 ∧ rD hc (.inr (S, 0)) 6 = M ∧ rD hr (.inl 105) 12 = ((N + M : Nat) : Int) ∧ (∀ q, q < M → hr.2.1 (.inl 116) (N + q) = 1 ∧ ∃ u v, rs_k hc hr S C N q u v) ∧
  (∀ u v, u < 6 → v < 6 → hr.2.1 (.inl 113) (36 * S + 6 * u + v) = 0 ∨ ∃ q, q < M ∧ (rs_k hc hr S C N q u v ∨ rs_k hc hr S C N q v u)) ∧ M = sd_C sd_CL (rz_g hr S)
/-! numbers, apart from the heaps -/
theorem rjm_c {c c0 u v : Nat} (hu : u < 6) (hv : v < 6) (e0 : c0 = 6 * u + v ∨ c0 = 6 * v + u) (l1 : c / 6 < 6 ∧ c / 6 < c % 6) (l2 : c0 / 6 < 6 ∧ c0 / 6 < c0 % 6) (q : c = 6 * v + u ∨ c = 6 * u + v) : c = c0 := by
  rcases q with q | q
  · have d1 : c / 6 = v := by omega
    have d2 : c % 6 = u := by omega
    rcases e0 with e0 | e0
    · exfalso
      have d3 : c0 / 6 = u := by omega
      have d4 : c0 % 6 = v := by omega
      omega
    · omega
  · have d1 : c / 6 = u := by omega
    have d2 : c % 6 = v := by omega
    rcases e0 with e0 | e0
    · omega
    · exfalso
      have d3 : c0 / 6 = v := by omega
      have d4 : c0 % 6 = u := by omega
      omega
theorem rjm_m {u v : Nat} (hn : u ≠ v) : ¬ 36 * S + 6 * u + v = 36 * S + 6 * v + u := by omega
theorem rjm_e {u v u' v' : Nat} (hu : u < 6) (hv : v < 6) (hu' : u' < 6) (hv' : v' < 6) (e : 36 * S + 6 * u' + v' = 36 * S + 6 * u + v) : u' = u ∧ v' = v := by omega
theorem rjm_o {u v c0 : Nat} (e0 : c0 = 6 * u + v ∨ c0 = 6 * v + u) : c0 = 6 * v + u ∨ c0 = 6 * u + v := e0.symm
theorem rj_15 {u v : Nat} (J : rj_J hc hr S C N M) (hu : u < 6) (hv : v < 6) (hn : u ≠ v) (z1 : hr.2.1 (.inl 113) (36 * S + 6 * u + v) = 0) (z2 : hr.2.1 (.inl 113) (36 * S + 6 * v + u) = 0) : M < 15 := by
  obtain ⟨c0, h0, e0⟩ := sd_pair hu hv hn
  have f0 : ¬ rz_g hr S c0 = true := fun q => by
    have q' := of_decide_eq_true q
    rcases e0 with rfl | rfl
    · exact q' (by rw [← Nat.add_assoc]; exact z1)
    · exact q' (by rw [← Nat.add_assoc]; exact z2)
  have := sd_C_14 h0 f0
  have e := J.2.2.2.2.2
  omega
end RQ
