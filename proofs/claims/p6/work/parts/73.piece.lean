/-! ===== a piece, on both sides ===== -/
section RQ
variable {hc hr h : mx_H} {L p S C n : Nat}
/-- pieceBetween -/
def k_mn (a b : Int32) : Int32 := if b < a then b else a
def k_mx (a b : Int32) : Int32 := if a < b then b else a
theorem k61g {a b : Int32} (hn : rD h (.inr (S, 0)) 6 = n) (n15 : n ≤ 15) : ∀ (j k : Nat) (x : Int32), k + j = n → x.toInt = k →
    (∃ q, k ≤ q ∧ q < n ∧ h.2.1 (.inr (S, 5)) q = k_mn a b ∧ h.2.1 (.inr (S, 6)) q = k_mx a b ∧ (g61_2 S a b x h).toInt = q) ∨ ((∀ q, k ≤ q → q < n → ¬ (h.2.1 (.inr (S, 5)) q = k_mn a b ∧ h.2.1 (.inr (S, 6)) q = k_mx a b)) ∧ g61_2 S a b x h = -1)
  | 0, k, x, e, hx => by
    refine Or.inr ⟨fun q q1 q2 => by omega, ?_⟩
    rw [g61_2_eq, if_pos (i_le hn hx (by omega))]
  | j + 1, k, x, e, hx => by
    have ih := k61g (a := a) (b := b) hn n15 j (k + 1) (x + 1) (by omega) (by rw [i_add hx k_1 (by omega) (by omega)]; omega)
    rw [g61_2_eq, if_neg (i_nle hn hx (by omega)), i_cl hx]
    have nxt : ¬ (h.2.1 (.inr (S, 5)) k = k_mn a b ∧ h.2.1 (.inr (S, 6)) k = k_mx a b) → (∃ q, k ≤ q ∧ q < n ∧ h.2.1 (.inr (S, 5)) q = k_mn a b ∧ h.2.1 (.inr (S, 6)) q = k_mx a b ∧ (g61_2 S a b (x + 1) h).toInt = q) ∨ ((∀ q, k ≤ q → q < n → ¬ (h.2.1 (.inr (S, 5)) q = k_mn a b ∧ h.2.1 (.inr (S, 6)) q = k_mx a b)) ∧ g61_2 S a b (x + 1) h = -1) := fun z => by
      rcases ih with ⟨q, q1, q2, q3⟩ | ⟨q1, q2⟩
      · exact Or.inl ⟨q, by omega, q2, q3⟩
      · refine Or.inr ⟨fun q z1 z2 => ?_, q2⟩
        by_cases e2 : q = k
        · subst e2
          exact z
        · exact q1 q (by omega) z2
    by_cases c1 : h.2.1 (.inr (S, 5)) k = k_mn a b
    · rw [if_neg (show ¬ h.2.1 (.inr (S, 5)) k ≠ (if b < a then b else a) from fun q => q c1)]
      by_cases c2 : h.2.1 (.inr (S, 6)) k = k_mx a b
      · rw [if_neg (show ¬ h.2.1 (.inr (S, 6)) k ≠ (if a < b then b else a) from fun q => q c2)]
        exact Or.inl ⟨k, Nat.le_refl _, by omega, c1, c2, hx⟩
      · rw [if_pos (show h.2.1 (.inr (S, 6)) k ≠ (if a < b then b else a) from c2)]
        exact nxt (fun q => c2 q.2)
    · rw [if_pos (show h.2.1 (.inr (S, 5)) k ≠ (if b < a then b else a) from c1)]
      exact nxt (fun q => c1 q.1)
theorem k61 {a b : Int32} (hn : rD h (.inr (S, 0)) 6 = n) (n15 : n ≤ 15) : (∃ q, q < n ∧ h.2.1 (.inr (S, 5)) q = k_mn a b ∧ h.2.1 (.inr (S, 6)) q = k_mx a b ∧ (f61 S a b h).toInt = q) ∨ ((∀ q, q < n → ¬ (h.2.1 (.inr (S, 5)) q = k_mn a b ∧ h.2.1 (.inr (S, 6)) q = k_mx a b)) ∧ f61 S a b h = -1) := by
  rw [f61_eq]
  rcases k61g (a := a) (b := b) hn n15 n 0 0 (by omega) rfl with ⟨q, q1, q2⟩ | ⟨q1, q2⟩
  · exact Or.inl ⟨q, q2⟩
  · exact Or.inr ⟨fun q z => q1 q (Nat.zero_le _) z, q2⟩
theorem k_mn_v {x y : Int32} {a b : Nat} (hx : x.toInt = (a : Int)) (hy : y.toInt = (b : Int)) : (k_mn x y).toInt = ((min a b : Nat) : Int) := by
  unfold k_mn
  by_cases c : b < a
  · rw [if_pos (i_lt hy hx (by omega)), hy]
    omega
  · rw [if_neg (i_nlt hy hx (by omega)), hx]
    omega
theorem k_mx_v {x y : Int32} {a b : Nat} (hx : x.toInt = (a : Int)) (hy : y.toInt = (b : Int)) : (k_mx x y).toInt = ((max a b : Nat) : Int) := by
  unfold k_mx
  by_cases c : a < b
  · rw [if_pos (i_lt hx hy (by omega)), hy]
    omega
  · rw [if_neg (i_nlt hx hy (by omega)), hx]
    omega
/-- addPiece -/
def k_ap (h : mx_H) (S n : Nat) (a b d : Int32) : mx_H := mx_uI (mx_uI (mx_uI (mx_uI (mx_uI h (.inr (S, 5)) n (k_mn a b)) (.inr (S, 6)) n (k_mx a b)) (.inr (S, 7)) n d) (.inr (S, 8)) n 0) (.inr (S, 0)) 6 (h.2.1 (.inr (S, 0)) 6 + 1)
theorem k63 {a b d : Int32} (hn : rD h (.inr (S, 0)) 6 = n) (n15 : n < 15) : f63 S a b d h = k_ap h S n a b d := by
  rw [f63_eq, if_pos (i_lt hn k_15 (by omega)), rS (show 0 ≠ 8 by decide), rS (show 0 ≠ 7 by decide), rS (show 0 ≠ 6 by decide), rS (show 0 ≠ 5 by decide), i_cl hn]
  rfl
/-- setPiece -/
def k_p (h : mx_H) (q : Nat) (bo st cr : Int32) : mx_H := mx_uI (mx_uI (mx_uI h (.inl 113) q (bo + 1)) (.inl 111) q st) (.inl 112) q cr
theorem k181 {s x y bo st cr : Int32} {a b : Nat} (hs : s.toInt = (S : Int)) (hx : x.toInt = (a : Int)) (hy : y.toInt = (b : Int)) (S12 : S ≤ 12) (ha : a < 6) (hb : b < 6) : f181 s x y bo st cr h = k_p (k_p h (36 * S + 6 * a + b) bo st cr) (36 * S + 6 * b + a) bo st cr := by
  rw [f181_eq, g181_3_eq, if_neg (show ¬ (2 : Int32) ≤ 0 by decide), if_neg (show ¬ (0 : Int32) ≠ 0 from fun q => q rfl)]
  show g181_3 s x y bo st cr (0 + 1) (mx_uI (mx_uI (mx_uI h (.inl 113) (Int32.toNatClampNeg (f179 s x y)) (bo + 1)) (.inl 111) (Int32.toNatClampNeg (f179 s x y)) st) (.inl 112) (Int32.toNatClampNeg (f179 s x y)) cr) = _
  rw [i_cl (w179 hs hx hy S12 ha hb), g181_3_eq, if_neg (show ¬ (2 : Int32) ≤ 0 + 1 by decide), if_pos (show (0 + 1 : Int32) ≠ 0 by decide)]
  show g181_3 s x y bo st cr (0 + 1 + 1) (mx_uI (mx_uI (mx_uI _ (.inl 113) (Int32.toNatClampNeg (f179 s y x)) (bo + 1)) (.inl 111) (Int32.toNatClampNeg (f179 s y x)) st) (.inl 112) (Int32.toNatClampNeg (f179 s y x)) cr) = _
  rw [i_cl (w179 hs hy hx S12 hb ha), g181_3_eq, if_pos (show (2 : Int32) ≤ 0 + 1 + 1 by decide)]
  rfl
theorem k_p3 {q q2 : Nat} {bo st cr : Int32} : (k_p h q bo st cr).2.1 (.inl 113) q2 = if q2 = q then bo + 1 else h.2.1 (.inl 113) q2 := by
  by_cases e : q2 = q
  · rw [if_pos e]
    show (mx_uI h (.inl 113) q (bo + 1)).2.1 (.inl 113) q2 = _
    exact rI_c rfl e
  · rw [if_neg e]
    show (mx_uI h (.inl 113) q (bo + 1)).2.1 (.inl 113) q2 = _
    exact rI_i e
theorem k_p1 {q q2 : Nat} {bo st cr : Int32} : (k_p h q bo st cr).2.1 (.inl 111) q2 = if q2 = q then st else h.2.1 (.inl 111) q2 := by
  by_cases e : q2 = q
  · rw [if_pos e]
    show (mx_uI (mx_uI h (.inl 113) q (bo + 1)) (.inl 111) q st).2.1 (.inl 111) q2 = _
    exact rI_c rfl e
  · rw [if_neg e]
    show (mx_uI (mx_uI h (.inl 113) q (bo + 1)) (.inl 111) q st).2.1 (.inl 111) q2 = _
    exact rI_i e
theorem k_p2 {q q2 : Nat} {bo st cr : Int32} : (k_p h q bo st cr).2.1 (.inl 112) q2 = if q2 = q then cr else h.2.1 (.inl 112) q2 := by
  by_cases e : q2 = q
  · rw [if_pos e]
    exact rI_c rfl e
  · rw [if_neg e]
    exact rI_i e
theorem k_po {q k i : Nat} {bo st cr : Int32} (h1 : k ≠ 111) (h2 : k ≠ 112) (h3 : k ≠ 113) : (k_p h q bo st cr).2.1 (.inl k) i = h.2.1 (.inl k) i := by
  unfold k_p
  rw [rN h2, rN h1, rN h3]
end RQ
