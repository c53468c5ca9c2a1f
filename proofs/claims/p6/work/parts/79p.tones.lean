/-! ===== tones counted; a cell of an array behind a store ===== -/
section RSP
variable {h hc hr : mx_H} {S N s n C F u v c k : Nat} {a a1 a2 a3 a4 x y : Int32}
theorem sh_i {i : Nat} {p : Nat} {w : Int32} {j : Nat} : (mx_uI h (.inl p) j w).2.1 (.inl p) i = if i = j then w else h.2.1 (.inl p) i := by
  by_cases e : i = j
  · rw [if_pos e, rI_c rfl e]
  · rw [if_neg e, rI_i e]
/-- tones are counted alike -/
theorem aw_tg (h1 : a1.toInt = (s : Int)) (s12 : s ≤ 12) (C6 : C ≤ 6) (kc : rD hc (.inr (s, 0)) 0 = C) (kr : rD hr (.inl 106) s = C) (he : ∀ c, c < C → hc.2.1 (.inr (s, 4)) c = hr.2.1 (.inl 110) (6 * s + c)) : ∀ (j c : Nat) (x y : Int32), c + j = C → y.toInt = (c : Int) → g60_4 s x y hc = g195_4 a1 x y hr
  | 0, c, x, y, e, hy => by rw [g60_4_eq, g195_4_eq, i_cl h1, if_pos (i_le kc hy (by omega)), if_pos (i_le kr hy (by omega))]
  | j + 1, c, x, y, e, hy => by
    have hp := w6 h1 hy s12 (show c < 6 by omega)
    have hy1 : (y + 1).toInt = ((c + 1 : Nat) : Int) := (i_add hy k_1 (by omega) (by omega)).trans (by omega)
    rw [g60_4_eq, g195_4_eq, i_cl h1, if_neg (i_nle kc hy (by omega)), if_neg (i_nle kr hy (by omega)), i_cl hy, i_cl hp, he c (by omega)]
    by_cases z : hr.2.1 (.inl 110) (6 * s + c) = 0
    · rw [if_neg (fun t => t z), if_pos z]
      exact aw_tg h1 s12 C6 kc kr he j (c + 1) (x + 1) (y + 1) (by omega) hy1
    · rw [if_pos z, if_neg z, show x + 0 = x from Int32.add_zero x]
      exact aw_tg h1 s12 C6 kc kr he j (c + 1) x (y + 1) (by omega) hy1
theorem aw_tones (Ds : rs_D hc hr N s C n F) (s12 : s ≤ 12) (h1 : a1.toInt = (s : Int)) : f60 s hc = f195 a1 hr := by
  rw [f60_eq, f195_eq]
  exact aw_tg h1 s12 Ds.2.1 Ds.2.2.2.1 Ds.2.2.2.2.1 (fun c hc1 => (Ds.2.2.2.2.2.2.2.1 c hc1).2.2.2) C 0 0 0 (by omega) rfl
end RSP
