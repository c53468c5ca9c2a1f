section RW
variable {hc hr h : mx_H} {L p S C n k : Nat}
/-- p: a piece -/
theorem rz_piece (t : rz_T hc (rz_r hr) L p) (K : rz_C hc (rz_r hr) S C n) (hF : rD hr (.inl 105) 18 = -1) (hS : rD hr (.inl 105) 1 = S) (S11 : S ≤ 12) : rz_O S L C p hc hr (f89 S hc) (g191_34 112 hr) := by
  have hF1 : rD (rz_r hr) (.inl 105) 18 = -1 := hF
  have hS1 : rD (rz_r hr) (.inl 105) 1 = S := hS
  have C6 := K.1
  have k1 := K.2.1
  have k2 := K.2.2.1
  rw [G34, if_neg (show ¬ (112 : Int32) ≠ 112 from fun q => q rfl), R190, C89]
  rcases rz_let t C6 (by omega) k1 k2 hS1 with ⟨x, u, hu, pl, hx, e1, e2⟩ | ⟨e1, e2⟩
  · rw [e1, e2, if_pos (i_le k_0 hx (by omega)), if_pos (i_le k_0 hx (by omega))]
    have t1 := rz_adv t pl
    have K1 : rz_C (rz_c hc) (rz_r (rz_r hr)) S C n := rz_Cc (rz_Cr K)
    rcases rz_let t1 C6 (by omega) k1 k2 hS1 with ⟨y, v, hv, pl1, hy, e3, e4⟩ | ⟨e3, e4⟩
    · rw [e3, e4, if_neg (i_nlt hy k_0 (by omega)), if_neg (i_nlt hy k_0 (by omega))]
      by_cases c : v = u
      · have e : y = x := i_eq hy hx (by omega)
        rw [if_pos e, if_pos e]
        exact rz_bad (C := C) t1 hF rz_FC.refl (rz_FRr (rz_FRr rz_FR.refl)) rfl (rz_FCc rz_FC.refl)
      · have e : ¬ y = x := i_ne hy hx (by omega)
        rw [if_neg e, if_neg e]
        rcases rz_has K1 hS1 S11 hx hy hu hv (fun q => c q.symm) with ⟨q1, q2⟩ | ⟨q1, q2, z1, z2, n15⟩
        · have q2' : ¬ f180 ((rz_r hr).2.1 (.inl 105) 1) x y (rz_r (rz_r hr)) = 0 := q2
          rw [if_neg q1, if_neg q2']
          exact rz_bad (C := C) t1 hF rz_FC.refl (rz_FRr (rz_FRr rz_FR.refl)) rfl (rz_FCc rz_FC.refl)
        · have q2' : f180 ((rz_r hr).2.1 (.inl 105) 1) x y (rz_r (rz_r hr)) = 0 := q2
          rw [if_pos q1, if_pos q2']
          have t2 := rz_adv t1 pl1
          have K2 : rz_C (rz_c (rz_c hc)) (rz_r (rz_r (rz_r (rz_r hr)))) S C n := rz_Cc (rz_Cc (rz_Cr (rz_Cr (rz_Cr K))))
          rcases rz_dig t2 with ⟨d, d1, d9, pl2, dv, d8, -⟩ | ⟨d0, -, d8⟩
          · rw [if_pos (i_ne dv k_0 (by omega)), d8, k63 K2.2.2.2.1 n15]
            show rz_O S L C p hc hr _ (if (rz_r (rz_r (rz_r (rz_r hr)))).2.1 (.inl 105) 18 < 0 then k_q (f181 ((rz_r (rz_r (rz_r (rz_r hr)))).2.1 (.inl 105) 1) x y 0 (f93 (rz_c (rz_c hc))) 0 (rz_r (rz_r (rz_r (rz_r hr))))) x y else _)
            rw [if_pos (i_lt (show ((rz_r (rz_r (rz_r (rz_r hr)))).2.1 (.inl 105) 18).toInt = -1 from hF) k_0 (by omega)), k181 (S := S) (show ((rz_r (rz_r (rz_r (rz_r hr)))).2.1 (.inl 105) 1).toInt = S from hS) hx hy (by omega) (by omega) (by omega)]
            refine ⟨rz_FCc (kaF (rz_FCc (rz_FCc rz_FC.refl))), rz_FRq (rz_FRp (by omega) (rz_FRp (by omega) (rz_FRr (rz_FRr (rz_FRr (rz_FRr rz_FR.refl)))))), Or.inl ⟨n10, hF, p + 3, n + 1, by omega, rz_adv t2 pl2, ?_⟩⟩
            exact rz_Cc (rz_new K2 hx hy hu hv (fun q => c q.symm) z1 z2 n15 rfl)
          · rw [if_neg (fun q => q d0), d8]
            have e9 : ¬ (f186 (rz_r (rz_r (rz_r hr)))).2.1 (.inl 105) 18 < 0 := by
              rw [G186 (hr := rz_r (rz_r (rz_r hr))) hF, rI_s]
              exact i_nlt t2.2.2.2.2.2.1 k_0 (by omega)
            show rz_O S L C p hc hr _ (if (f186 (rz_r (rz_r (rz_r hr)))).2.1 (.inl 105) 18 < 0 then _ else f186 (rz_r (rz_r (rz_r hr))))
            rw [if_neg e9]
            exact rz_bad (C := C) t2 hF rz_FC.refl (rz_FRr (rz_FRr (rz_FRr rz_FR.refl))) rfl (rz_FCc (rz_FCc rz_FC.refl))
    · rw [e3, e4, if_pos (show (-1 : Int32) < 0 by decide +kernel), if_pos (show (-1 : Int32) < 0 by decide +kernel)]
      exact rz_bad (C := C) t1 hF rz_FC.refl (rz_FRr (rz_FRr rz_FR.refl)) rfl (rz_FCc rz_FC.refl)
  · rw [e1, e2, if_neg (show ¬ (0 : Int32) ≤ -1 by decide +kernel), if_neg (show ¬ (0 : Int32) ≤ -1 by decide +kernel)]
    exact rz_bad (C := C) t hF1 rz_FC.refl (rz_FRr rz_FR.refl) rfl rz_FC.refl
end RW
