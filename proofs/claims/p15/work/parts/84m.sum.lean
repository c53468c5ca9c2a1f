/-! ===== the class's way to the sums ===== -/
section SU
variable {h g g0 k hc hr : mx_H} {C t c n r u kk : Nat} {a1 a2 a3 a4 a5 a6 a7 x y w : Int32} {l v : Int64} {V E : Nat → Int64} {M : Nat → Nat → Int64}
abbrev c64s (f : Nat → Int64) (n : Nat) : Int64 := gk_sum (· + ·) 0 f n
abbrev c64v (M : Nat → Nat → Int64) (r : Nat) (x : Nat → Int64) (i : Nat) : Int64 := gk_mv (· + ·) (· * ·) 0 M r x i
abbrev c64w (M : Nat → Nat → Int64) (r m : Nat) : Nat → Int64 := gk_w (· + ·) (· * ·) 0 M r m
abbrev c64F (M : Nat → Nat → Int64) (r k : Nat) : Int64 := gk_F (· + ·) (· * ·) (- ·) 0 1 M r k
abbrev c64N (M : Nat → Nat → Int64) (r : Nat) (E : Nat → Int64) (k : Nat) : Int64 := gk_N (· + ·) (· * ·) (- ·) 0 1 M r E k
abbrev c64E (M : Nat → Nat → Int64) (r k : Nat) : Int64 := gk_E (· + ·) (· * ·) (- ·) 0 1 M r k
theorem c64w_1 {m : Nat} : c64w M r (m + 1) = bif Nat.beq (m % 2) 0 then c64w M r m else c64v M r (c64w M r m) := rfl
theorem c64F_2 {m : Nat} : c64F M r (m + 2) = bif Nat.beq (m % 2) 0 then -(c64s (fun i => c64w M r m i * c64w M r m i) r) else c64s (fun i => c64w M r m i * c64v M r (c64w M r m) i) r := rfl
theorem L28 (h1 : a1.toInt = (r : Int)) (h2 : a2.toInt = ((6 * r : Nat) : Int)) (r6 : r < 6) : ∀ (j c : Nat) (a3 : Int32) {g : mx_H}, c + j = r → a3.toInt = (c : Int) → ∃ g', g30_28 t a1 a2 a3 g = g30_55 t a1 2 g' ∧ sm g' g ∧ (∀ b i, b ≠ .inr (t, 39) → g'.2.2.1 b i = g.2.2.1 b i) ∧ (∀ i, i < c → g'.2.2.1 (.inr (t, 39)) i = g.2.2.1 (.inr (t, 39)) i) ∧ ∀ i, c ≤ i → i < r → g'.2.2.1 (.inr (t, 39)) i = g.2.2.1 (.inr (t, 37)) (6 * r + i)
  | 0, c, a3, g, e, ha => by
    refine ⟨g, ?_, sm.refl, fun _ _ _ => rfl, fun _ _ => rfl, fun i l1 l2 => by omega⟩
    rw [g30_28_eq, if_pos (i_le h1 ha (by omega))]
  | j + 1, c, a3, g, e, ha => by
    have w1 : (a2 + a3).toInt = ((6 * r + c : Nat) : Int) := (i_add h2 ha (by omega) (by omega)).trans (by omega)
    obtain ⟨g', q1, q2, q3, q4, q5⟩ := L28 h1 h2 r6 j (c + 1) (a3 + 1) (g := mx_uL g (.inr (t, 39)) c (g.2.2.1 (.inr (t, 37)) (6 * r + c))) (by omega) ((i_add ha k_1 (by omega) (by omega)).trans (by omega))
    refine ⟨g', ?_, q2, fun b i hb => (q3 b i hb).trans (rL_a hb), fun i hi => (q4 i (by omega)).trans (rL_i (by omega)), fun i l1 l2 => ?_⟩
    · rw [g30_28_eq, if_neg (i_nle h1 ha (by omega)), i_cl ha, i_cl w1]
      exact q1
    · by_cases ic : i = c
      · subst ic
        rw [q4 i (by omega), rL_s]
      · rw [q5 i (by omega) l2, rL_a (ne_o (by decide))]
theorem L100 (h1 : a1.toInt = (r : Int)) (r6 : r < 6) (h5 : a5.toInt = (u : Int)) (ur : u < r) : ∀ (j c : Nat) (a6 : Int32) {g : mx_H}, c + j = r → a6.toInt = (c : Int) → (∀ j, j < r → g.2.2.1 (.inr (t, 37)) (6 * u + j) = M u j) → (∀ j, j < r → g.2.2.1 (.inr (t, 39)) j = V j) → g.2.2.1 (.inr (t, 40)) u = c64s (fun j => M u j * V j) c → ∃ g', g30_100 t a1 a3 a4 a5 a6 g = g30_78 t a1 a3 a4 (a5 + 1) g' ∧ sm g' g ∧ (∀ b i, ¬ (b = .inr (t, 40) ∧ i = u) → g'.2.2.1 b i = g.2.2.1 b i) ∧ g'.2.2.1 (.inr (t, 40)) u = c64v M r V u
  | 0, c, a6, g, e, ha, hM, hV, hu => by
    refine ⟨g, ?_, sm.refl, fun _ _ _ => rfl, ?_⟩
    · rw [g30_100_eq, if_pos (i_le h1 ha (by omega))]
    · rw [hu, show c = r by omega]
      rfl
  | j + 1, c, a6, g, e, ha, hM, hV, hu => by
    have w1 := w6 h5 ha (show u ≤ 12 by omega) (show c < 6 by omega)
    obtain ⟨g', q1, q2, q3, q4⟩ := L100 h1 r6 h5 ur j (c + 1) (a6 + 1) (g := mx_uL g (.inr (t, 40)) u (g.2.2.1 (.inr (t, 40)) u + g.2.2.1 (.inr (t, 37)) (6 * u + c) * g.2.2.1 (.inr (t, 39)) c)) (by omega) ((i_add ha k_1 (by omega) (by omega)).trans (by omega)) (fun j hj => (rL_a (ne_o (by decide))).trans (hM j hj)) (fun j hj => (rL_a (ne_o (by decide))).trans (hV j hj)) (by
      rw [rL_s, hu, hM c (by omega), hV c (by omega)]
      rfl)
    refine ⟨g', ?_, q2, fun b i hb => (q3 b i hb).trans (if_neg hb), q4⟩
    rw [g30_100_eq, if_neg (i_nle h1 ha (by omega)), i_cl h5, i_cl w1, i_cl ha]
    exact q1
theorem L78 (h1 : a1.toInt = (r : Int)) (r6 : r < 6) (h4 : a4 ≠ 0) : ∀ (j c : Nat) (a5 : Int32) {g : mx_H}, c + j = r → a5.toInt = (c : Int) → (∀ i j, i < r → j < r → g.2.2.1 (.inr (t, 37)) (6 * i + j) = M i j) → (∀ j, j < r → g.2.2.1 (.inr (t, 39)) j = V j) → ∃ g', g30_78 t a1 a3 a4 a5 g = g30_155 t a1 a3 a4 0 0 g' ∧ sm g' g ∧ (∀ b i, b ≠ .inr (t, 40) → g'.2.2.1 b i = g.2.2.1 b i) ∧ (∀ i, i < c → g'.2.2.1 (.inr (t, 40)) i = g.2.2.1 (.inr (t, 40)) i) ∧ ∀ i, c ≤ i → i < r → g'.2.2.1 (.inr (t, 40)) i = c64v M r V i
  | 0, c, a5, g, e, ha, hM, hV => by
    refine ⟨g, ?_, sm.refl, fun _ _ _ => rfl, fun _ _ => rfl, fun i l1 l2 => by omega⟩
    rw [g30_78_eq, if_pos (i_le h1 ha (by omega))]
  | j + 1, c, a5, g, e, ha, hM, hV => by
    obtain ⟨g1, p1, p2, p3, p4⟩ := L100 (t := t) (a3 := a3) (a4 := a4) (M := M) (V := V) h1 r6 ha (show c < r by omega) r 0 0 (g := mx_uL g (.inr (t, 40)) c 0) (by omega) rfl (fun j hj => (rL_a (ne_o (by decide))).trans (hM c j (by omega) hj)) (fun j hj => (rL_a (ne_o (by decide))).trans (hV j hj)) rL_s
    have f : ∀ b i, ¬ (b = .inr (t, 40) ∧ i = c) → g1.2.2.1 b i = g.2.2.1 b i := fun b i hb => (p3 b i hb).trans (if_neg hb)
    obtain ⟨g', q1, q2, q3, q4, q5⟩ := L78 h1 r6 h4 j (c + 1) (a5 + 1) (g := g1) (by omega) ((i_add ha k_1 (by omega) (by omega)).trans (by omega)) (fun i j hi hj => (f _ _ (fun z => absurd z.1 (ne_o (by decide)))).trans (hM i j hi hj)) (fun j hj => (f _ _ (fun z => absurd z.1 (ne_o (by decide)))).trans (hV j hj))
    refine ⟨g', ?_, q2.trans p2, fun b i hb => (q3 b i hb).trans (f b i (fun z => hb z.1)), fun i hi => (q4 i (by omega)).trans (f _ i (fun z => by omega)), fun i l1 l2 => ?_⟩
    · rw [g30_78_eq, if_neg (i_nle h1 ha (by omega)), if_neg h4, i_cl ha, p1]
      exact q1
    · by_cases ic : i = c
      · subst ic
        rw [q4 i (by omega), p4]
      · exact q5 i (by omega) l2
theorem L155 (h1 : a1.toInt = (r : Int)) (r6 : r < 6) (h3 : a3.toInt = (kk : Int)) {f : Nat → Int64} (hf : ∀ i, i < r → f i = g.2.2.1 (.inr (t, 39)) i * (if a4 = 0 then g.2.2.1 (.inr (t, 39)) i else g.2.2.1 (.inr (t, 40)) i)) : ∀ (j c : Nat) (a5 : Int64) (a7 : Int32), c + j = r → a7.toInt = (c : Int) → a5 = c64s f c → g30_155 t a1 a3 a4 a5 a7 g = g30_224 t a1 a3 a4 0 (mx_uL g (.inr (t, 38)) kk (if a4 = 0 then -(c64s f r) else c64s f r))
  | 0, c, a5, a7, e, ha, h5 => by
    have ec : c = r := by omega
    subst ec
    rw [g30_155_eq, if_pos (i_le h1 ha (by omega)), i_cl h3, h5]
    by_cases z : a4 = 0
    · rw [if_pos z, if_pos z]
    · rw [if_neg z, if_neg z]
  | j + 1, c, a5, a7, e, ha, h5 => by
    have ih := fun v (hv : v = c64s f (c + 1)) => L155 h1 r6 h3 hf j (c + 1) v (a7 + 1) (by omega) ((i_add ha k_1 (by omega) (by omega)).trans (by omega)) hv
    have hfc := hf c (by omega)
    rw [g30_155_eq, if_neg (i_nle h1 ha (by omega)), i_cl ha]
    by_cases z : a4 = 0
    · rw [if_pos z]
      rw [if_pos z] at hfc
      refine ih _ ?_
      rw [h5, ← hfc]
      rfl
    · rw [if_neg z]
      rw [if_neg z] at hfc
      refine ih _ ?_
      rw [h5, ← hfc]
      rfl
theorem L224 (h1 : a1.toInt = (r : Int)) (r6 : r < 6) (h4 : a4 ≠ 0) : ∀ (j c : Nat) (a7 : Int32) {g : mx_H}, c + j = r → a7.toInt = (c : Int) → ∃ g', g30_224 t a1 a3 a4 a7 g = g30_55 t a1 (a3 + 1) g' ∧ sm g' g ∧ (∀ b i, b ≠ .inr (t, 39) → g'.2.2.1 b i = g.2.2.1 b i) ∧ (∀ i, i < c → g'.2.2.1 (.inr (t, 39)) i = g.2.2.1 (.inr (t, 39)) i) ∧ ∀ i, c ≤ i → i < r → g'.2.2.1 (.inr (t, 39)) i = g.2.2.1 (.inr (t, 40)) i
  | 0, c, a7, g, e, ha => by
    refine ⟨g, ?_, sm.refl, fun _ _ _ => rfl, fun _ _ => rfl, fun i l1 l2 => by omega⟩
    rw [g30_224_eq, if_pos (i_le h1 ha (by omega))]
  | j + 1, c, a7, g, e, ha => by
    obtain ⟨g', q1, q2, q3, q4, q5⟩ := L224 h1 r6 h4 j (c + 1) (a7 + 1) (g := mx_uL g (.inr (t, 39)) c (g.2.2.1 (.inr (t, 40)) c)) (by omega) ((i_add ha k_1 (by omega) (by omega)).trans (by omega))
    refine ⟨g', ?_, q2, fun b i hb => (q3 b i hb).trans (rL_a hb), fun i hi => (q4 i (by omega)).trans (rL_i (by omega)), fun i l1 l2 => ?_⟩
    · rw [g30_224_eq, if_neg (i_nle h1 ha (by omega)), if_neg h4, i_cl ha]
      exact q1
    · by_cases ic : i = c
      · subst ic
        rw [q4 i (by omega), rL_s]
      · rw [q5 i (by omega) l2, rL_a (ne_o (by decide))]
/-- what row r brings, so far -/
def su_F (g0 g : mx_H) (t n r kk : Nat) (M : Nat → Nat → Int64) : Prop := sm g g0 ∧ (∀ b i, b ≠ .inr (t, 38) → b ≠ .inr (t, 39) → b ≠ .inr (t, 40) → g.2.2.1 b i = g0.2.2.1 b i) ∧ (∀ i j, i < n → j < n → g.2.2.1 (.inr (t, 37)) (6 * i + j) = M i j) ∧ ∀ i, i < kk → g.2.2.1 (.inr (t, 38)) i = c64F M r i
theorem L55 (h1 : a1.toInt = (r : Int)) (r6 : r < 6) (rn : r < n) : ∀ (j m : Nat) (a3 : Int32) {g : mx_H}, m + j = r → a3.toInt = ((m + 2 : Nat) : Int) → su_F g0 g t n r (m + 2) M → (∀ i, i < r → g.2.2.1 (.inr (t, 39)) i = c64w M r m i) → su_F g0 (g30_55 t a1 a3 g) t n r (r + 2) M
  | 0, m, a3, g, e, h3, S, W => by
    rw [g30_55_eq, if_pos (i_lt (i_add h1 k_1 (by omega) (by omega)) h3 (by omega))]
    exact (show m = r by omega) ▸ S
  | j + 1, m, a3, g, e, h3, S, W => by
    obtain ⟨S1, S2, S3, S4⟩ := S
    have h3' := (i_add h3 k_1 (by omega) (by omega)).trans (show ((m + 2 : Nat) : Int) + 1 = ((m + 1 + 2 : Nat) : Int) by omega)
    have dv := i_div (y := 2) (q := 2) h3 rfl
    have pr : (a3 - a3 / 2 * 2).toInt = (((m + 2) % 2 : Nat) : Int) := by
      rw [i_sub h3 (i_mul dv k_2 (by omega) (by omega)) (by omega) (by omega)]
      omega
    rw [g30_55_eq, if_neg (i_nlt (i_add h1 k_1 (by omega) (by omega)) h3 (by omega))]
    by_cases z : m % 2 = 0
    · have eF : c64F M r (m + 2) = -(c64s (fun i => c64w M r m i * c64w M r m i) r) := by
        rw [c64F_2, show Nat.beq (m % 2) 0 = true by rw [z]; rfl]
        rfl
      have eW : c64w M r (m + 1) = c64w M r m := by
        rw [c64w_1, show Nat.beq (m % 2) 0 = true by rw [z]; rfl]
        rfl
      rw [if_pos (i_eq pr k_0 (by omega)), g30_78_eq, if_pos rfl, ite_self, L155 (f := fun i => c64w M r m i * c64w M r m i) h1 r6 h3 (fun i hi => by rw [if_pos rfl, W i hi]) r 0 0 0 (by omega) rfl rfl, if_pos rfl, g30_224_eq, if_pos rfl, ite_self]
      refine L55 h1 r6 rn j (m + 1) (a3 + 1) (by omega) h3' ⟨S1, fun b i b1 b2 b3 => (rL_a b1).trans (S2 b i b1 b2 b3), fun i j hi hj => (rL_a (ne_o (by decide))).trans (S3 i j hi hj), fun i hi => ?_⟩ (fun i hi => ?_)
      · by_cases im : i = m + 2
        · rw [im, rL_s, eF]
        · rw [rL_i im]
          exact S4 i (by omega)
      · rw [rL_a (ne_o (by decide)), eW]
        exact W i hi
    · have nb : Nat.beq (m % 2) 0 = false := by
        cases q : Nat.beq (m % 2) 0 with
        | true => exact absurd (Nat.eq_of_beq_eq_true q) z
        | false => rfl
      have eF : c64F M r (m + 2) = c64s (fun i => c64w M r m i * c64v M r (c64w M r m) i) r := by
        rw [c64F_2, nb]
        rfl
      have eW : ∀ i, c64w M r (m + 1) i = c64v M r (c64w M r m) i := fun i => by
        rw [c64w_1, nb]
        rfl
      rw [if_neg (i_ne pr k_0 (by omega))]
      obtain ⟨g1, p1, p2, p3, p4, p5⟩ := L78 (t := t) (a3 := a3) (a4 := 1) (M := M) (V := c64w M r m) h1 r6 n10 r 0 0 (g := g) (by omega) rfl (fun i j hi hj => S3 i j (by omega) (by omega)) W
      have W1 : ∀ i, i < r → g1.2.2.1 (.inr (t, 39)) i = c64w M r m i := fun i hi => (p3 _ _ (ne_o (by decide))).trans (W i hi)
      rw [p1, L155 (f := fun i => c64w M r m i * c64v M r (c64w M r m) i) h1 r6 h3 (fun i hi => by rw [if_neg n10, W1 i hi, p5 i (Nat.zero_le _) hi]) r 0 0 0 (by omega) rfl rfl, if_neg n10]
      obtain ⟨g2, q1, q2, q3, q4, q5⟩ := L224 (t := t) (a3 := a3) (a4 := 1) h1 r6 n10 r 0 0 (g := mx_uL g1 (.inr (t, 38)) (m + 2) (c64s (fun i => c64w M r m i * c64v M r (c64w M r m) i) r)) (by omega) rfl
      rw [q1]
      refine L55 h1 r6 rn j (m + 1) (a3 + 1) (by omega) h3' ⟨?_, fun b i b1 b2 b3 => (q3 b i b2).trans ((rL_a b1).trans ((p3 b i b3).trans (S2 b i b1 b2 b3))), fun i j hi hj => (q3 _ _ (ne_o (by decide))).trans ((rL_a (ne_o (by decide))).trans ((p3 _ _ (ne_o (by decide))).trans (S3 i j hi hj))), fun i hi => ?_⟩ (fun i hi => ?_)
      · exact (show sm g2 g1 from q2).trans (p2.trans S1)
      · rw [q3 _ _ (ne_o (by decide))]
        by_cases im : i = m + 2
        · rw [im, rL_s, eF]
        · rw [rL_i im, p3 _ _ (ne_o (by decide))]
          exact S4 i (by omega)
      · rw [q5 i (Nat.zero_le _) hi, rL_a (ne_o (by decide)), p5 i (Nat.zero_le _) hi, eW]
theorem S30 (h1 : a1.toInt = (r : Int)) (r6 : r < 6) (rn : r < n) (hM : ∀ i j, i < n → j < n → g.2.2.1 (.inr (t, 37)) (6 * i + j) = M i j) : su_F g (f30 t a1 g) t n r (r + 2) M := by
  have w1 : (6 * a1).toInt = ((6 * r : Nat) : Int) := (i_mul k_6 h1 (by omega) (by omega)).trans (by omega)
  have w2 := w6 h1 h1 (show r ≤ 12 by omega) r6
  obtain ⟨g', q1, q2, q3, q4, q5⟩ := L28 (t := t) h1 w1 r6 r 0 0 (g := mx_uL (mx_uL g (.inr (t, 38)) 0 1) (.inr (t, 38)) 1 (g.2.2.1 (.inr (t, 37)) (6 * r + r))) (by omega) rfl
  have e : f30 t a1 g = g30_55 t a1 2 g' := by
    rw [f30_eq, i_cl w2, rL_a (ne_o (by decide))]
    exact q1
  rw [e]
  have fr : ∀ b i, b ≠ .inr (t, 38) → b ≠ .inr (t, 39) → g'.2.2.1 b i = g.2.2.1 b i := fun b i b1 b2 => (q3 b i b2).trans ((rL_a b1).trans (rL_a b1))
  refine L55 h1 r6 rn r 0 2 (by omega) rfl ⟨q2, fun b i b1 b2 _ => fr b i b1 b2, fun i j hi hj => (fr _ _ (ne_o (by decide)) (ne_o (by decide))).trans (hM i j hi hj), fun i hi => ?_⟩ (fun i hi => ?_)
  · rw [q3 _ _ (ne_o (by decide))]
    rcases (show i = 0 ∨ i = 1 by omega) with z | z
    · rw [z, rL_i (by decide), rL_s]
      rfl
    · rw [z, rL_s, hM r r rn rn]
      rfl
  · rw [q5 i (Nat.zero_le _) hi, rL_a (ne_o (by decide)), rL_a (ne_o (by decide)), hM r i rn (by omega)]
    rfl
/-- one sum -/
theorem L44 (h3 : a3.toInt = (r : Int)) (r6 : r < 6) (h4 : a4.toInt = (kk : Int)) (k6 : kk ≤ 6) {F E : Nat → Int64} (hF : ∀ i, i ≤ kk → g.2.2.1 (.inr (t, 38)) i = F i) (hE : ∀ i, i ≤ kk → i ≤ r → g.2.2.1 (.inr (t, 35)) i = E i) : ∀ (j c : Nat) (a5 : Int64) (a7 : Int32), c + j = min kk r + 1 → a7.toInt = (c : Int) → a5 = c64s (fun j => F (kk - j) * E j) c → g29_44 t a3 a4 a5 a7 g = g29_33 t a3 (a4 + (-1)) (mx_uL g (.inr (t, 35)) kk (c64s (fun j => F (kk - j) * E j) (min kk r + 1)))
  | 0, c, a5, a7, e, h7, h5 => by
    have ec : c = min kk r + 1 := by omega
    subst ec
    rw [g29_44_eq, i_cl h4, h5]
    by_cases z : kk ≤ r
    · rw [if_pos (i_lt h4 h7 (by omega))]
    · rw [if_neg (i_nlt h4 h7 (by omega)), if_pos (i_lt h3 h7 (by omega))]
  | j + 1, c, a5, a7, e, h7, h5 => by
    have w1 : (a4 - a7).toInt = ((kk - c : Nat) : Int) := (i_sub h4 h7 (by omega) (by omega)).trans (by omega)
    rw [g29_44_eq, if_neg (i_nlt h4 h7 (by omega)), if_neg (i_nlt h3 h7 (by omega)), i_cl w1, i_cl h7, hF _ (by omega), hE c (by omega) (by omega)]
    refine L44 h3 r6 h4 k6 hF hE j (c + 1) _ (a7 + 1) (by omega) ((i_add h7 k_1 (by omega) (by omega)).trans (by omega)) ?_
    rw [h5]
    rfl
/-- a row's sums, from the last to the first -/
theorem L33 (h3 : a3.toInt = (r : Int)) (r6 : r < 6) (hF : ∀ i, i ≤ r + 1 → g0.2.2.1 (.inr (t, 38)) i = c64F M r i) : ∀ (kk : Nat) (a4 : Int32) {g : mx_H}, kk ≤ r + 1 → a4.toInt = (kk : Int) → sm g g0 → (∀ b i, b ≠ .inr (t, 35) → g.2.2.1 b i = g0.2.2.1 b i) → (∀ i, i ≤ kk → i ≤ r → g.2.2.1 (.inr (t, 35)) i = E i) → (∀ i, kk < i → i ≤ r + 1 → g.2.2.1 (.inr (t, 35)) i = c64N M r E i) → ∃ g', g29_33 t a3 a4 g = g29_15 t (a3 + 1) g' ∧ sm g' g0 ∧ (∀ b i, b ≠ .inr (t, 35) → g'.2.2.1 b i = g0.2.2.1 b i) ∧ g'.2.2.1 (.inr (t, 35)) 0 = E 0 ∧ ∀ i, 0 < i → i ≤ r + 1 → g'.2.2.1 (.inr (t, 35)) i = c64N M r E i
  | 0, a4, g, _, h4, G1, G2, G3, G4 => by
    refine ⟨g, ?_, G1, G2, G3 0 (Nat.le_refl _) (Nat.zero_le _), G4⟩
    rw [g29_33_eq, if_pos (i_le h4 k_0 (by decide))]
  | kk + 1, a4, g, hk, h4, G1, G2, G3, G4 => by
    have h4' := (i_add h4 k_m1 (by omega) (by omega)).trans (show ((kk + 1 : Nat) : Int) + -1 = (kk : Int) by omega)
    rw [g29_33_eq, if_neg (i_nle h4 k_0 (by omega)), L44 (F := c64F M r) (E := E) h3 r6 h4 (by omega) (fun i hi => (G2 _ _ (ne_o (by decide))).trans (hF i (by omega))) G3 (min (kk + 1) r + 1) 0 0 0 (by omega) rfl rfl]
    refine L33 h3 r6 hF kk (a4 + -1) (by omega) h4' G1 (fun b i hb => (rL_a hb).trans (G2 b i hb)) (fun i l1 l2 => ?_) (fun i l1 l2 => ?_)
    · rw [rL_i (by omega)]
      exact G3 i (by omega) l2
    · by_cases ik : i = kk + 1
      · rw [ik, rL_s]
        rfl
      · rw [rL_i ik]
        exact G4 i (by omega) l2
/-- all rows -/
theorem L15 (n6 : n ≤ 6) : ∀ (j r : Nat) (a3 : Int32) {g : mx_H}, r + j = n → a3.toInt = (r : Int) → rD g (.inr (t, 30)) 7 = n → (∀ i j, i < n → j < n → g.2.2.1 (.inr (t, 37)) (6 * i + j) = M i j) → (∀ i, i ≤ r → g.2.2.1 (.inr (t, 35)) i = c64E M r i) → sm (g29_15 t a3 g) g ∧ (∀ b i, (∀ o, 35 ≤ o → b ≠ .inr (t, o)) → (g29_15 t a3 g).2.2.1 b i = g.2.2.1 b i) ∧ ∀ i, i ≤ n → (g29_15 t a3 g).2.2.1 (.inr (t, 35)) i = c64E M n i
  | 0, r, a3, g, e, h3, hn, hM, hE => by
    rw [g29_15_eq, if_pos (i_le hn h3 (by omega))]
    exact ⟨sm.refl, fun _ _ _ => rfl, (show r = n by omega) ▸ hE⟩
  | j + 1, r, a3, g, e, h3, hn, hM, hE => by
    have h3' := (i_add h3 k_1 (by omega) (by omega)).trans (show (r : Int) + 1 = ((r + 1 : Nat) : Int) by omega)
    obtain ⟨S1, S2, S3, S4⟩ := S30 (t := t) (n := n) (M := M) (g := g) h3 (show r < 6 by omega) (by omega) hM
    obtain ⟨g', q1, q2, q3, q4, q5⟩ := L33 (t := t) (M := M) (g0 := f30 t a3 g) (E := c64E M r) h3 (show r < 6 by omega) (fun i hi => S4 i (by omega)) (r + 1) (a3 + 1) (g := f30 t a3 g) (Nat.le_refl _) h3' sm.refl (fun _ _ _ => rfl) (fun i _ l2 => (S2 _ _ (ne_o (by decide)) (ne_o (by decide)) (ne_o (by decide))).trans (hE i l2)) (fun i l1 l2 => by omega)
    have st : g29_15 t a3 g = g29_15 t (a3 + 1) g' := by
      rw [g29_15_eq, if_neg (i_nle hn h3 (by omega))]
      exact q1
    rw [st]
    obtain ⟨z1, z2, z3⟩ := L15 n6 j (r + 1) (a3 + 1) (g := g') (by omega) h3' (by
      unfold rD
      rw [q2.1, S1.1]
      exact hn) (fun i j hi hj => (q3 _ _ (ne_o (by decide))).trans (S3 i j hi hj)) (fun i hi => by
      by_cases z : i = 0
      · rw [z, q4]
        cases r <;> rfl
      · obtain ⟨i', rfl⟩ : ∃ i', i = i' + 1 := ⟨i - 1, by omega⟩
        rw [q5 _ (by omega) hi]
        rfl)
    exact ⟨z1.trans (q2.trans S1), fun b i hb => (z2 b i hb).trans ((q3 b i (hb 35 (by decide))).trans (S2 b i (hb 38 (by decide)) (hb 39 (by decide)) (hb 40 (by decide)))), z3⟩
/-- the sums of minors, on the class's side -/
theorem S29 {p q : Int} (N : nt_N hc k t C) (V : nt_V k C) (h1 : a1.toInt = p) (p0 : 0 ≤ p) (p9 : p ≤ 99) (h2 : a2.toInt = q) (q1 : 1 ≤ q) (q9 : q ≤ 9) : cm_F hc (f29 t a1 a2 hc) t ∧ rD (f29 t a1 a2 hc) (.inr (t, 30)) 7 = (fl k C).length ∧ (∀ i, i < (fl k C).length → rD (f29 t a1 a2 hc) (.inr (t, 36)) i = ((fl k C).getD i 0 : Nat)) ∧ ∀ i, i ≤ (fl k C).length → (f29 t a1 a2 hc).2.2.1 (.inr (t, 35)) i = Int64.ofInt (zE (zB (zm k (fl k C) C p q)) (fl k C).length i) := by
  have C6 := N.1
  have len := fl_len (k := k) C
  have M := M7 (hc := hc) N V h1 p0 p9 h2 q1 q9 C 0 0 (g := mx_uI hc (.inr (t, 30)) 7 0) (by omega) rfl ⟨cm_F.refl.fR, fun _ _ _ => rfl, by
    unfold rD
    rw [rI_s]
    rfl, fun i hi => absurd hi (Nat.not_lt_zero _), fun i j hi _ => absurd hi (Nat.not_lt_zero _)⟩
  rw [← f28_eq] at M
  obtain ⟨F, M1, M2, M3, M4⟩ := M
  obtain ⟨z1, z2, z3⟩ := L15 (t := t) (M := fun i j => Int64.ofInt (zB (zm k (fl k C) C p q) i j)) (n := (fl k C).length) (by omega) (fl k C).length 0 0 (g := mx_uL (f28 t a1 a2 hc) (.inr (t, 35)) 0 1) (by omega) rfl M2 (fun i j hi hj => by
    rw [rL_a (ne_o (by decide)), M4 i j hi hj, zB_e (by omega) (by omega)]
    unfold zm
    by_cases ij : i = j
    · subst ij
      rfl
    · rw [if_neg ij, if_neg (fun z => ij z.symm), (V.2 _ _ (fl_gl hi) (fl_gl hj)).2]) (fun i hi => by
    rw [show i = 0 by omega, rL_s]
    rfl)
  have e : f29 t a1 a2 hc = g29_15 t 0 (mx_uL (f28 t a1 a2 hc) (.inr (t, 35)) 0 1) := by
    rw [f29_eq]
    rfl
  rw [e]
  refine ⟨⟨fun b i n1 n2 => ?_, fun b i nb => ?_, z1.2.trans F.2.2⟩, ?_, fun i hi => ?_, fun i hi => ?_⟩
  · rw [z1.1]
    exact F.1 b i n1 n2
  · rw [z2 b i nb, rL_a (nb 35 (by decide))]
    exact F.2.1 b i nb
  · unfold rD
    rw [z1.1]
    exact M2
  · unfold rD
    rw [z1.1]
    exact M3 i hi
  · rw [z3 i hi]
    exact gE_64 (by omega) hi
end SU
