/-! stub (dev only): in rows this stands in 84p -/
theorem mi_S.up {h : mx_H} {b b' : Nat} (S : mi_S h b) (q : b ≤ b') : mi_S h b' := ⟨⟨S.1.1, Int.le_trans S.1.2 (by omega)⟩, S.2⟩
