/-! ===== 84w: both searches find the same p, where the count never falls ===== -/
section P84w
variable {h0 : mx_H} {t B : Nat} {a1 a2 : Int32} {i : Int} {f : Nat → Nat}
/-- what the class's search knows: at c, with everything from c + w on too much -/
def zw (f : Nat → Nat) (i : Int) (c w : Nat) : Prop := c ≤ 99 ∧ (c = 0 ∨ (f c : Int) ≤ i) ∧ ∀ p', c + w ≤ p' → p' ≤ 99 → i < (f p' : Int)
theorem Z33s {P : mx_H → Prop} (mono : ∀ p p', p ≤ p' → p' ≤ 99 → f p ≤ f p') (f6 : ∀ p, p ≤ 99 → f p ≤ 6) (h1 : a1.toInt = i) (FP : ∀ (h' : mx_H) (p : Nat) (a : Int32), P h' → p ≤ 99 → a.toInt = (p : Int) → (f31 t a a2 h').1 = nI (f p) ∧ P (f31 t a a2 h').2) (st c : Nat) (h' : mx_H) (s0 : 0 < st) (s64 : st ≤ 64) (Z : zw f i c (2 * st)) (Ph : P h') : ∃ c' h'', g33_6 t a1 a2 (nI c) (nI st) h' = g33_6 t a1 a2 (nI c') (nI (st / 2)) h'' ∧ zw f i c' st ∧ P h'' := by
  obtain ⟨z1, z2, z3⟩ := Z
  have es : (nI st).toInt = (st : Int) := nI_toInt (by omega)
  have ec : (nI c).toInt = (c : Int) := nI_toInt (by omega)
  have e99 : (99 : Int32).toInt = 99 := rfl
  have ea : (nI c + nI st).toInt = ((c + st : Nat) : Int) := (i_add ec es (by omega) (by omega)).trans (by omega)
  have ed : nI st / 2 = nI (st / 2) := i_eq (i_div (q := 2) es k_2) (nI_toInt (by omega)) rfl
  rw [g33_6_eq, if_neg (i_nle es k_0 (by omega)), ed]
  by_cases q : 99 < c + st
  · rw [if_pos (i_lt e99 ea (by omega))]
    exact ⟨c, h', rfl, ⟨z1, z2, fun p' l1 l2 => by omega⟩, Ph⟩
  · rw [if_neg (i_nlt e99 ea (by omega))]
    obtain ⟨r1, r2⟩ := FP h' (c + st) (nI c + nI st) Ph (by omega) ea
    have ef : (nI (f (c + st))).toInt = (f (c + st) : Int) := nI_toInt (by have := f6 (c + st) (by omega); omega)
    show ∃ c' h'', (if a1 < (f31 t (nI c + nI st) a2 h').1 then g33_6 t a1 a2 (nI c) (nI (st / 2)) (f31 t (nI c + nI st) a2 h').2 else g33_6 t a1 a2 (nI c + nI st) (nI (st / 2)) (f31 t (nI c + nI st) a2 h').2) = _ ∧ _ ∧ _
    rw [r1]
    by_cases l : i < (f (c + st) : Int)
    · rw [if_pos (i_lt h1 ef l)]
      refine ⟨c, _, rfl, ⟨z1, z2, fun p' l1 l2 => ?_⟩, r2⟩
      have := mono (c + st) p' l1 l2
      omega
    · rw [if_neg (i_nlt h1 ef (by omega)), nI_add]
      rw [nI_add] at r2
      exact ⟨c + st, _, rfl, ⟨by omega, Or.inr (by omega), fun p' l1 l2 => z3 p' (by omega) l2⟩, r2⟩
theorem Z33 {P : mx_H → Prop} (mono : ∀ p p', p ≤ p' → p' ≤ 99 → f p ≤ f p') (f6 : ∀ p, p ≤ 99 → f p ≤ 6) (h1 : a1.toInt = i) (FP : ∀ (h' : mx_H) (p : Nat) (a : Int32), P h' → p ≤ 99 → a.toInt = (p : Int) → (f31 t a a2 h').1 = nI (f p) ∧ P (f31 t a a2 h').2) (Ph : P h0) : ∃ r, (f33 t a1 a2 h0).1 = nI r ∧ zg f i r ∧ P (f33 t a1 a2 h0).2 := by
  obtain ⟨c1, x1, e1, Z1, P1⟩ := Z33s mono f6 h1 FP 64 0 h0 (by decide) (by decide) ⟨by decide, Or.inl rfl, fun p' l1 l2 => by omega⟩ Ph
  obtain ⟨c2, x2, e2, Z2, P2⟩ := Z33s mono f6 h1 FP 32 c1 x1 (by decide) (by decide) Z1 P1
  obtain ⟨c3, x3, e3, Z3, P3⟩ := Z33s mono f6 h1 FP 16 c2 x2 (by decide) (by decide) Z2 P2
  obtain ⟨c4, x4, e4, Z4, P4⟩ := Z33s mono f6 h1 FP 8 c3 x3 (by decide) (by decide) Z3 P3
  obtain ⟨c5, x5, e5, Z5, P5⟩ := Z33s mono f6 h1 FP 4 c4 x4 (by decide) (by decide) Z4 P4
  obtain ⟨c6, x6, e6, Z6, P6⟩ := Z33s mono f6 h1 FP 2 c5 x5 (by decide) (by decide) Z5 P5
  obtain ⟨c7, x7, e7, Z7, P7⟩ := Z33s mono f6 h1 FP 1 c6 x6 (by decide) (by decide) Z6 P6
  have e : f33 t a1 a2 h0 = (nI c7, x7) := by
    rw [f33_eq, show (0 : Int32) = nI 0 from rfl, show (64 : Int32) = nI 64 from rfl, e1, show 64 / 2 = 32 from rfl, e2, show 32 / 2 = 16 from rfl, e3, show 16 / 2 = 8 from rfl, e4, show 8 / 2 = 4 from rfl, e5, show 4 / 2 = 2 from rfl, e6, show 2 / 2 = 1 from rfl, e7, show 1 / 2 = 0 from rfl, g33_6_eq, if_pos (i_le (nI_toInt (n := 0) (by decide)) k_0 (by decide))]
  rw [e]
  exact ⟨c7, rfl, ⟨Z7.1, Z7.2.1, fun p' l1 l2 => Z7.2.2 p' (by omega) l2⟩, P7⟩
/-- the memo holds counts -/
def zm7 (f : Nat → Nat) (k : mx_H) : Prop := ∀ p, p ≤ 99 → k.2.1 (.inl 137) p = 0 ∨ k.2.1 (.inl 137) p = nI (1 + f p)
theorem Z219 {P : Nat → mx_H → Prop} (mono : ∀ p p', p ≤ p' → p' ≤ 99 → f p ≤ f p') (f6 : ∀ p, p ≤ 99 → f p ≤ 6) (h1 : a1.toInt = i) (FP : ∀ (c : Nat) (k : mx_H) (p : Nat) (a : Int32), P c k → c < B → p ≤ 99 → a.toInt = (p : Int) → (f213 a a2 k).1 = nI (f p) ∧ P (c + 1) (f213 a a2 k).2 ∧ ∀ j, (f213 a a2 k).2.2.1 (.inl 137) j = k.2.1 (.inl 137) j) (PW : ∀ (c : Nat) (k : mx_H) (j : Nat) (v : Int32), P c k → P c (mx_uI k (.inl 137) j v)) : ∀ (m c lo hi : Nat) (k : mx_H), P c k → zm7 f k → lo < hi → hi ≤ 100 → hi - lo ≤ 2 ^ m → c + m ≤ B → (lo = 0 ∨ (f lo : Int) ≤ i) → (∀ p', hi ≤ p' → p' ≤ 99 → i < (f p' : Int)) → ∃ r c' k', g219_6 a1 a2 (nI lo) (nI hi) k = (nI r, k') ∧ zg f i r ∧ P c' k' ∧ c' ≤ c + m ∧ zm7 f k'
  | 0, c, lo, hi, k, Pk, M, l1, l2, l3, hB, k1, k2 => by
    have elo : (nI lo).toInt = (lo : Int) := nI_toInt (by omega)
    have ehi : (nI hi).toInt = (hi : Int) := nI_toInt (by omega)
    have l3' : hi - lo ≤ 1 := l3
    have ed := i_sub ehi elo (by omega) (by omega)
    rw [g219_6_eq, if_pos (i_le ed k_1 (by omega))]
    exact ⟨lo, c, k, rfl, ⟨by omega, k1, fun p' q1 q2 => k2 p' (by omega) q2⟩, Pk, Nat.le_refl _, M⟩
  | m + 1, c, lo, hi, k, Pk, M, l1, l2, l3, hB, k1, k2 => by
    have elo : (nI lo).toInt = (lo : Int) := nI_toInt (by omega)
    have ehi : (nI hi).toInt = (hi : Int) := nI_toInt (by omega)
    have ed := i_sub ehi elo (by omega) (by omega)
    have l3' : hi - lo ≤ 2 * 2 ^ m := by
      rw [Nat.pow_succ, Nat.mul_comm] at l3
      exact l3
    rw [g219_6_eq]
    by_cases q : hi - lo ≤ 1
    · rw [if_pos (i_le ed k_1 (by omega))]
      exact ⟨lo, c, k, rfl, ⟨by omega, k1, fun p' q1 q2 => k2 p' (by omega) q2⟩, Pk, Nat.le_add_right _ _, M⟩
    · rw [if_neg (i_nle ed k_1 (by omega))]
      have es : (nI lo + nI hi).toInt = ((lo + hi : Nat) : Int) := (i_add elo ehi (by omega) (by omega)).trans (by omega)
      have em : (nI lo + nI hi) / 2 = nI ((lo + hi) / 2) := i_eq (i_div (q := 2) es k_2) (nI_toInt (by omega)) rfl
      rw [em]
      have emt : (nI ((lo + hi) / 2)).toInt = (((lo + hi) / 2 : Nat) : Int) := nI_toInt (by omega)
      rw [i_cl emt]
      have m99 : (lo + hi) / 2 ≤ 99 := by omega
      have fm := f6 _ m99
      have e1 : (nI (1 + f ((lo + hi) / 2)) - 1).toInt = (f ((lo + hi) / 2) : Int) := (i_sub (nI_toInt (n := 1 + f ((lo + hi) / 2)) (by omega)) k_1 (by omega) (by omega)).trans (by omega)
      generalize hx : 2 ^ m = x at l3'
      have step : ∀ (c1 : Nat) (k3 : mx_H), P c1 k3 → zm7 f k3 → c1 + m ≤ B → c1 ≤ c + 1 → ∃ r c' k', (if a1 < nI (1 + f ((lo + hi) / 2)) - 1 then g219_6 a1 a2 (nI lo) (nI ((lo + hi) / 2)) k3 else g219_6 a1 a2 (nI ((lo + hi) / 2)) (nI hi) k3) = (nI r, k') ∧ zg f i r ∧ P c' k' ∧ c' ≤ c + (m + 1) ∧ zm7 f k' := fun c1 k3 P3 M3 b1 b2 => by
        by_cases l : i < (f ((lo + hi) / 2) : Int)
        · rw [if_pos (i_lt h1 e1 l)]
          obtain ⟨r, c', k', y1, y2, y3, y4, y5⟩ := Z219 mono f6 h1 FP PW m c1 lo ((lo + hi) / 2) k3 P3 M3 (by omega) (by omega) (by rw [hx]; omega) b1 k1 (fun p' q1 q2 => by
            have := mono _ p' q1 q2
            omega)
          exact ⟨r, c', k', y1, y2, y3, by omega, y5⟩
        · rw [if_neg (i_nlt h1 e1 (by omega))]
          obtain ⟨r, c', k', y1, y2, y3, y4, y5⟩ := Z219 mono f6 h1 FP PW m c1 ((lo + hi) / 2) hi k3 P3 M3 (by omega) (by omega) (by rw [hx]; omega) b1 (Or.inr (by omega)) k2
          exact ⟨r, c', k', y1, y2, y3, by omega, y5⟩
      by_cases z : k.2.1 (.inl 137) ((lo + hi) / 2) = 0
      · rw [if_neg (fun w => w z)]
        obtain ⟨r1, r2, r3⟩ := FP c k ((lo + hi) / 2) (nI ((lo + hi) / 2)) Pk (by omega) m99 emt
        simp only [x_let]
        rw [r1, rI_s, show (1 : Int32) + nI (f ((lo + hi) / 2)) = nI (1 + f ((lo + hi) / 2)) from nI_add ..]
        exact step (c + 1) _ (PW _ _ _ _ r2) (fun p lp => by
          by_cases e : p = (lo + hi) / 2
          · rw [e, rI_s]
            exact Or.inr rfl
          · rw [rI_i e, r3]
            exact M p lp) (by omega) (Nat.le_refl _)
      · rw [if_pos z, (M _ m99).resolve_left z]
        exact step c k Pk M (by omega) (by omega)
theorem Z219f {P : Nat → mx_H → Prop} (mono : ∀ p p', p ≤ p' → p' ≤ 99 → f p ≤ f p') (f6 : ∀ p, p ≤ 99 → f p ≤ 6) (h1 : a1.toInt = i) (FP : ∀ (c : Nat) (k : mx_H) (p : Nat) (a : Int32), P c k → c < B → p ≤ 99 → a.toInt = (p : Int) → (f213 a a2 k).1 = nI (f p) ∧ P (c + 1) (f213 a a2 k).2 ∧ ∀ j, (f213 a a2 k).2.2.1 (.inl 137) j = k.2.1 (.inl 137) j) (PW : ∀ (c : Nat) (k : mx_H) (j : Nat) (v : Int32), P c k → P c (mx_uI k (.inl 137) j v)) {c : Nat} {k : mx_H} (Pk : P c k) (M : zm7 f k) (hB : c + 7 ≤ B) : ∃ r c', (f219 a1 a2 k).1 = nI r ∧ zg f i r ∧ P c' (f219 a1 a2 k).2 ∧ c' ≤ c + 7 ∧ zm7 f (f219 a1 a2 k).2 := by
  obtain ⟨r, c', k', y1, y2, y3, y4, y5⟩ := Z219 mono f6 h1 FP PW 7 c 0 100 k Pk M (by decide) (by decide) (by decide) hB (Or.inl rfl) (fun p' q1 q2 => by omega)
  have e : f219 a1 a2 k = (nI r, k') := by
    rw [f219_eq]
    exact y1
  rw [e]
  exact ⟨r, c', rfl, y2, y3, y4, y5⟩
end P84w
