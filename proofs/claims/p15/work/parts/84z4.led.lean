/-! ===== 84z4: LED ===== -/
section MLD
variable {h g hc hr k k' : mx_H} {S N C n F s t b i u v : Nat} {a1 a2 a3 a4 x y : Int32} {p q : Int}
/-- a piece counts x -/
def kz (k : mx_H) (u v : Nat) (x : Int32) : mx_H := mx_uI (mx_uI k (.inl 131) (6 * u + v) x) (.inl 131) (6 * v + u) x
theorem kz_r {j : Nat} : (kz k u v x).2.1 (.inl 131) j = if j = 6 * u + v ∨ j = 6 * v + u then x else k.2.1 (.inl 131) j := by
  unfold kz
  by_cases z : j = 6 * v + u
  · rw [z, rI_s, if_pos (Or.inr rfl)]
  · rw [rI_i z]
    by_cases z2 : j = 6 * u + v
    · rw [z2, rI_s, if_pos (Or.inl rfl)]
    · rw [rI_i z2, if_neg (by omega)]
theorem kz_o {a : mx_A} {j : Nat} (e : a ≠ .inl 131) : (kz k u v x).2.1 a j = k.2.1 a j := by
  unfold kz
  rw [rI_a e, rI_a e]
theorem kz_d {a c : Nat} (a6 : a < 6) (c6 : c < 6) (u6 : u < 6) (v6 : v < 6) : rD (kz k u v 0) (.inl 131) (6 * a + c) = if (a = u ∧ c = v) ∨ (a = v ∧ c = u) then 0 else rD k (.inl 131) (6 * a + c) := by
  unfold rD
  rw [kz_r]
  by_cases z : (a = u ∧ c = v) ∨ (a = v ∧ c = u)
  · rw [if_pos z, if_pos (by omega)]
    rfl
  · rw [if_neg z, if_neg (by omega)]
theorem kz_V (V : nt_V k C) (C6 : C ≤ 6) (u6 : u < C) (v6 : v < C) : nt_V (kz k u v 0) C := by
  refine ⟨fun i hi => ?_, fun i j hi hj => ?_⟩
  · unfold rD
    rw [kz_o (ne_l (by decide)), kz_o (ne_l (by decide))]
    exact V.1 i hi
  · rw [kz_d (by omega) (by omega) (by omega) (by omega), kz_d (by omega) (by omega) (by omega) (by omega)]
    have w := V.2 i j hi hj
    by_cases z : (i = u ∧ j = v) ∨ (i = v ∧ j = u)
    · rw [if_pos z, if_pos (by omega)]
      exact ⟨⟨by decide, by decide⟩, rfl⟩
    · rw [if_neg z, if_neg (by omega)]
      exact w
theorem kz_fl : ∀ c, fl (kz k u v x) c = fl k c
  | 0 => rfl
  | c + 1 => by
    unfold fl
    rw [kz_fl c, kz_o (ne_l (by decide))]
theorem fl_up : ∀ c i j : Nat, i < j → j < (fl k c).length → (fl k c).getD i 0 < (fl k c).getD j 0
  | 0, _, _, _, h => absurd h (Nat.not_lt_zero _)
  | c + 1, i, j, l, h => by
    unfold fl at h ⊢
    by_cases z : k.2.1 (.inl 130) c = 0
    · rw [if_pos z] at h ⊢
      rw [List.length_append] at h
      have h' : j < (fl k c).length + 1 := h
      rw [fl_get (by omega)]
      by_cases w : j = (fl k c).length
      · rw [w, fl_end]
        exact fl_gl (by omega)
      · rw [fl_get (by omega)]
        exact fl_up c i j l (by omega)
    · rw [if_neg z] at h ⊢
      exact fl_up c i j l h
theorem fl_ne {c j : Nat} (hi : i < (fl k c).length) (hj : j < (fl k c).length) (ne : i ≠ j) : (fl k c).getD i 0 ≠ (fl k c).getD j 0 := by
  rcases Nat.lt_or_gt_of_ne ne with w | w
  · have := fl_up (k := k) c i j w hj
    omega
  · have := fl_up (k := k) c j i w hi
    omega
theorem kz_zs (sy : rD k (.inl 131) (6 * v + u) = rD k (.inl 131) (6 * u + v)) (u6 : u < 6) (v6 : v < 6) (ne : u ≠ v) {a : Nat} (a6 : a < 6) : ∀ c, c ≤ 6 → zs (kz k u v 0) a c = zs k a c - if (a = u ∧ v < c) ∨ (a = v ∧ u < c) then rD k (.inl 131) (6 * u + v) else 0
  | 0, _ => by
    rw [if_neg (by omega)]
    rfl
  | c + 1, hc => by
    unfold zs
    rw [kz_zs sy u6 v6 ne a6 c (by omega), kz_d a6 (by omega) u6 v6]
    by_cases z : (a = u ∧ c = v) ∨ (a = v ∧ c = u)
    · rw [if_pos z, if_neg (show ¬ ((a = u ∧ v < c) ∨ (a = v ∧ u < c)) by omega), if_pos (show (a = u ∧ v < c + 1) ∨ (a = v ∧ u < c + 1) by omega)]
      have e : rD k (.inl 131) (6 * a + c) = rD k (.inl 131) (6 * u + v) := by
        rcases z with ⟨z1, z2⟩ | ⟨z1, z2⟩
        · rw [z1, z2]
        · rw [z1, z2, sy]
      rw [e]
      omega
    · rw [if_neg z]
      by_cases z2 : (a = u ∧ v < c) ∨ (a = v ∧ u < c)
      · rw [if_pos z2, if_pos (show (a = u ∧ v < c + 1) ∨ (a = v ∧ u < c + 1) by omega)]
        omega
      · rw [if_neg z2, if_neg (show ¬ ((a = u ∧ v < c + 1) ∨ (a = v ∧ u < c + 1)) by omega)]
        omega
def kw (k : mx_H) (C u v : Nat) (i : Nat) : Int := if (fl k C).getD i 0 = u then 1 else if (fl k C).getD i 0 = v then -1 else 0
theorem kz_m (V : nt_V k C) (C6 : C ≤ 6) (u6 : u < C) (v6 : v < C) (ne : u ≠ v) {j : Nat} (hi : i < (fl k C).length) (hj : j < (fl k C).length) : zm (kz k u v 0) (fl (kz k u v 0) C) C p q i j = zm k (fl k C) C p q i j - (q * rD k (.inl 131) (6 * u + v)) * (kw k C u v i * kw k C u v j) := by
  have sy := (V.2 v u v6 u6).2
  rw [kz_fl]
  have li := fl_gl hi
  have lj := fl_gl hj
  unfold zm kw
  by_cases z : i = j
  · subst z
    rw [if_pos rfl, if_pos rfl, kz_zs sy (by omega) (by omega) ne (by omega) C C6]
    have o1 : ∀ i, rD (kz k u v 0) (.inl 129) i = rD k (.inl 129) i := fun i => congrArg Int32.toInt (kz_o (ne_l (by decide)))
    have o2 : ∀ i, rD (kz k u v 0) (.inl 128) i = rD k (.inl 128) i := fun i => congrArg Int32.toInt (kz_o (ne_l (by decide)))
    rw [o1, o2]
    generalize (fl k C).getD i 0 = a at *
    generalize rD k (.inl 131) (6 * u + v) = X at *
    generalize rD k (.inl 129) a = P at *
    generalize p * rD k (.inl 128) a = Q at *
    generalize zs k a C = Z at *
    by_cases w : a = u
    · rw [if_pos w, if_pos (Or.inl ⟨w, v6⟩)]
      grind
    · rw [if_neg w]
      by_cases w2 : a = v
      · rw [if_pos w2, if_pos (Or.inr ⟨w2, u6⟩)]
        grind
      · rw [if_neg w2, if_neg (by omega)]
        grind
  · rw [if_neg z, if_neg z, kz_d (by omega) (by omega) (by omega) (by omega)]
    have nn := fl_ne hi hj z
    generalize (fl k C).getD i 0 = a at *
    generalize (fl k C).getD j 0 = c at *
    by_cases w : (a = u ∧ c = v) ∨ (a = v ∧ c = u)
    · rw [if_pos w]
      rcases w with ⟨w1, w2⟩ | ⟨w1, w2⟩
      · rw [if_pos w1, if_neg (by omega), if_pos w2, w1, w2]
        generalize rD k (.inl 131) (6 * u + v) = X at *
        grind
      · rw [if_neg (by omega), if_pos w1, if_pos w2, w1, w2, sy]
        generalize rD k (.inl 131) (6 * u + v) = X at *
        grind
    · rw [if_neg w]
      have e : (if a = u then (1 : Int) else if a = v then -1 else 0) * (if c = u then (1 : Int) else if c = v then -1 else 0) = 0 := by
        by_cases w1 : a = u
        · rw [if_neg (show ¬ c = u by omega), if_neg (show ¬ c = v by omega), Int.mul_zero]
        · by_cases w2 : a = v
          · rw [if_neg (show ¬ c = u by omega), if_neg (show ¬ c = v by omega), Int.mul_zero]
          · rw [if_neg w1, if_neg w2, Int.zero_mul]
      rw [e, Int.mul_zero, Int.sub_zero]
/-- a piece that counts 0: no fewer tones below -/
theorem fz_le (V : nt_V k C) (C6 : C ≤ 6) (u6 : u < C) (v6 : v < C) (ne : u ≠ v) (q1 : 1 ≤ q) (q9 : q ≤ 9) {p : Nat} (p9 : p ≤ 99) : fb k C q p ≤ fb (kz k u v 0) C q p := by
  have sy := (V.2 v u v6 u6).2
  have x0 := (V.2 u v u6 v6).1.1
  have len := fl_len (k := k) C
  by_cases z : rD k (.inl 131) (6 * u + v) = 0
  · have Q : nt_Q k (kz k u v 0) := fun x i h1 h2 => by
      by_cases e : x = 131
      · subst e
        rw [kz_r]
        by_cases w : i = 6 * u + v ∨ i = 6 * v + u
        · rw [if_pos w]
          rcases w with w | w
          · rw [w]
            exact (i_eq (x := k.2.1 (.inl 131) (6 * u + v)) z k_0 rfl).symm
          · rw [w]
            exact (i_eq (x := k.2.1 (.inl 131) (6 * v + u)) (sy.trans z) k_0 rfl).symm
        · rw [if_neg w]
      · exact kz_o (ne_l e)
    rw [nt_Qb Q]
    exact Nat.le_refl _
  · rw [fb_zi V C6 q1 q9 p9, fb_zi (kz_V V C6 u6 v6) C6 q1 q9 p9, show (fl (kz k u v 0) C).length = (fl k C).length by rw [kz_fl]]
    exact zi_rank (v := kw k C u v) (d := q * rD k (.inl 131) (6 * u + v)) (by omega) (fun i j hi hj => zm_sy V hi hj) (Int.mul_pos (by omega) (by omega)) (fun i j hi hj => kz_m V C6 u6 v6 ne hi hj)
theorem zt_le {f f' : Nat → Nat} {j : Nat} (l : ∀ p, p ≤ 99 → f p ≤ f' p) : zt f' j ≤ zt f j := by
  by_cases z : zt f' j ≤ zt f j
  · exact z
  · exfalso
    have h1 := zt_s (f := f) (j := j)
    have h2 := zt_s (f := f') (j := j)
    have h3 := h1.2.2 (zt f' j) (by omega) h2.1
    have h4 := l (zt f' j) h2.1
    rcases h2.2.1 with w | w
    · omega
    · omega
/-! both walks -/
/-- the greatest fall of the first c, and its piece -/
def ldm (τ : Nat → Nat) : Nat → Nat × Nat
  | 0 => (0, 0)
  | c + 1 => if c = 0 then (τ 0, 0) else if (ldm τ c).1 < τ c then (τ c, c) else ldm τ c
theorem ldm_b {τ : Nat → Nat} (h : ∀ c, τ c ≤ 99) : ∀ c, (ldm τ c).1 ≤ 99 ∧ (ldm τ c).2 ≤ c
  | 0 => ⟨Nat.zero_le 99, Nat.le_refl _⟩
  | c + 1 => by
    have ih := ldm_b h c
    unfold ldm
    by_cases z : c = 0
    · rw [if_pos z]
      exact ⟨h 0, Nat.zero_le _⟩
    · rw [if_neg z]
      by_cases w : (ldm τ c).1 < τ c
      · rw [if_pos w]
        exact ⟨h c, Nat.le_succ _⟩
      · rw [if_neg w]
        omega
def ldw (τ : Nat → Nat) (F : Nat) (a4 : Int32) (n : Nat) : Int32 := if a4 ≠ 0 then nI (ldm τ n).1 else if n = 0 then -2 else nI (F + (ldm τ n).2)
theorem nt_kz (N : nt_N g k t C) : nt_N (mx_uI (mx_uI g (.inr (t, 34)) (6 * u + v) x) (.inr (t, 34)) (6 * v + u) x) (kz k u v x) t C := by
  obtain ⟨n1, n2, n3, n4, n5⟩ := N
  refine ⟨n1, ?_, ?_, fun i hi => ?_, fun i j hi hj => ?_⟩
  · unfold rD
    rw [rI_a (ne_o (by decide)), rI_a (ne_o (by decide))]
    exact n2
  · unfold rD
    rw [kz_o (ne_l (by decide))]
    exact n3
  · unfold rD
    rw [rI_a (ne_o (by decide)), rI_a (ne_o (by decide)), rI_a (ne_o (by decide)), rI_a (ne_o (by decide)), rI_a (ne_o (by decide)), rI_a (ne_o (by decide)), kz_o (ne_l (by decide)), kz_o (ne_l (by decide)), kz_o (ne_l (by decide))]
    exact n4 i hi
  · rw [kz_r]
    by_cases z : 6 * i + j = 6 * v + u
    · rw [z, rI_s, if_pos (Or.inr rfl)]
    · rw [rI_i z]
      by_cases z2 : 6 * i + j = 6 * u + v
      · rw [z2, rI_s, if_pos (Or.inl rfl)]
      · rw [rI_i z2, if_neg (by omega)]
        exact n5 i j hi hj
theorem nt_same (N : nt_N g k t C) (e : ∀ a i, k'.2.1 a i = k.2.1 a i) : nt_N g k' t C := by
  obtain ⟨n1, n2, n3, n4, n5⟩ := N
  refine ⟨n1, n2, ?_, fun i hi => ?_, fun i j hi hj => ?_⟩
  · unfold rD
    rw [e]
    exact n3
  · unfold rD
    rw [e, e, e]
    exact n4 i hi
  · rw [e]
    exact n5 i j hi hj
theorem kz_back (e1 : k.2.1 (.inl 131) (6 * u + v) = x) (e2 : k.2.1 (.inl 131) (6 * v + u) = x) (a : mx_A) (j : Nat) : k.2.1 a j = (kz (kz k u v y) u v x).2.1 a j := by
  by_cases z : a = .inl 131
  · rw [z, kz_r]
    by_cases w : j = 6 * u + v ∨ j = 6 * v + u
    · rw [if_pos w]
      rcases w with w | w
      · rw [w, e1]
      · rw [w, e2]
    · rw [if_neg w, kz_r, if_neg w]
  · rw [kz_o z, kz_o z]
/-- the class -/
theorem S115 (V : nt_V k C) (C6 : C ≤ 6) (s12 : s ≤ 12) (N200 : F + n ≤ 200) (h2 : a2.toInt = (i : Int)) (h3 : a3.toInt = q) (q1 : 1 ≤ q) (q9 : q ≤ 9) {U W : Nat → Nat} (k6 : rD hc (.inr (s, 0)) 6 = n) (k5 : rD hc (.inr (s, 0)) 5 = F)
    (L : ∀ c, c < n → U c < C ∧ W c < C ∧ U c ≠ W c ∧ rD hc (.inr (s, 5)) c = (U c : Int) ∧ rD hc (.inr (s, 6)) c = (W c : Int) ∧ k.2.1 (.inl 131) (6 * U c + W c) = hc.2.1 (.inr (s, 7)) c - hc.2.1 (.inr (s, 8)) c ∧ k.2.1 (.inl 131) (6 * W c + U c) = hc.2.1 (.inr (s, 7)) c - hc.2.1 (.inr (s, 8)) c)
    {τ : Nat → Nat} (hτ : ∀ c, τ c = zt (fb k C q) i - zt (fb (kz k (U c) (W c) 0) C q) i) : ∀ (j c : Nat) (a7 a8 a9 : Int32) {g : mx_H}, c + j = n → a9.toInt = (c : Int) → a7 = (if c = 0 then -1 else nI (ldm τ c).1) → a8 = (if c = 0 then -2 else nI (F + (ldm τ c).2)) → nt_N g k 0 C → (∀ o i, o < 30 → g.2.1 (.inr (s, o)) i = hc.2.1 (.inr (s, o)) i) → (g115_59 a2 a3 a4 s (nI (zt (fb k C q) i)) a7 a8 a9 g).1 = ldw τ F a4 n
  | 0, c, a7, a8, a9, g, e, h9, h7, h8, NN, G => by
    have T99 : ∀ c, τ c ≤ 99 := fun c => by
      have := zt_99 (f := fb k C q) (j := i)
      rw [hτ c]
      omega
    have B := ldm_b T99 n
    have cn : c = n := by omega
    rw [g115_59_eq, G 0 6 (by decide), if_pos (i_le k6 h9 (by omega))]
    unfold ldw
    by_cases z : a4 ≠ 0
    · rw [if_pos z, if_pos z, h7, cn]
      by_cases w : n = 0
      · rw [if_pos w, if_pos (by decide), w]
        rfl
      · rw [if_neg w, if_neg (i_nlt (nI_toInt (n := (ldm τ n).1) (by omega)) k_0 (by omega))]
    · rw [if_neg z, if_neg z, h8, cn]
  | j + 1, c, a7, a8, a9, g, e, h9, h7, h8, NN, G => by
    have T99 : ∀ c, τ c ≤ 99 := fun c => by
      have := zt_99 (f := fb k C q) (j := i)
      rw [hτ c]
      omega
    have B := ldm_b T99 c
    have h9' := (i_add h9 k_1 (by omega) (by omega)).trans (show (c : Int) + 1 = ((c + 1 : Nat) : Int) by omega)
    obtain ⟨l1, l2, l3, l4, l5, l6, l7⟩ := L c (by omega)
    have Vz := kz_V V C6 l1 l2
    have N1 := nt_kz (u := U c) (v := W c) (x := 0) NN
    obtain ⟨t1, F1⟩ := TTc (a1 := a2) N1 Vz h2 h3 q1 q9
    have N2 := nt_cm N1 F1
    have G2 : ∀ o i, o < 30 → (f33 0 a2 a3 (mx_uI (mx_uI g (.inr (0, 34)) (6 * U c + W c) 0) (.inr (0, 34)) (6 * W c + U c) 0)).2.2.1 (.inr (s, o)) i = hc.2.1 (.inr (s, o)) i := fun o i ho => by
      rw [cm_s F1 ho, rI_a (fun e => by
        cases e
        omega), rI_a (fun e => by
        cases e
        omega)]
      exact G o i ho
    have N3 := nt_same (nt_kz (u := U c) (v := W c) (x := hc.2.1 (.inr (s, 7)) c - hc.2.1 (.inr (s, 8)) c) N2) (kz_back l6 l7)
    rw [g115_59_eq, G 0 6 (by decide), if_neg (i_nle k6 h9 (by omega)), i_cl h9, G 5 c (by decide), G 6 c (by decide)]
    have w1 := i_cl (w6 (x := hc.2.1 (.inr (s, 5)) c) (y := hc.2.1 (.inr (s, 6)) c) l4 l5 (by omega) (by omega))
    have w2 := i_cl (w6 (x := hc.2.1 (.inr (s, 6)) c) (y := hc.2.1 (.inr (s, 5)) c) l5 l4 (by omega) (by omega))
    simp only [x_h, x_let]
    rw [f26_eq, w1, w2, f26_eq, G2 5 c (by decide), G2 6 c (by decide), w1, w2, f62_eq, i_cl h9, G2 7 c (by decide), G2 8 c (by decide), t1]
    have le : zt (fb (kz k (U c) (W c) 0) C q) i ≤ zt (fb k C q) i := zt_le (fun p hp => fz_le V C6 l1 l2 l3 q1 q9 hp)
    rw [nI_subn le, ← hτ c]
    have G3 : ∀ o i, o < 30 → (mx_uI (mx_uI (f33 0 a2 a3 (mx_uI (mx_uI g (.inr (0, 34)) (6 * U c + W c) 0) (.inr (0, 34)) (6 * W c + U c) 0)).2 (.inr (0, 34)) (6 * U c + W c) (hc.2.1 (.inr (s, 7)) c - hc.2.1 (.inr (s, 8)) c)) (.inr (0, 34)) (6 * W c + U c) (hc.2.1 (.inr (s, 7)) c - hc.2.1 (.inr (s, 8)) c)).2.1 (.inr (s, o)) i = hc.2.1 (.inr (s, o)) i := fun o i ho => by
      rw [rI_a (fun e => by
        cases e
        omega), rI_a (fun e => by
        cases e
        omega)]
      exact G2 o i ho
    have T9 := T99 c
    rw [G3 0 5 (by decide)]
    have e5 : hc.2.1 (.inr (s, 0)) 5 + a9 = nI (F + c) := i_eq (i_add (show (hc.2.1 (.inr (s, 0)) 5).toInt = (F : Int) from k5) h9 (by omega) (by omega)) (nI_toInt (n := F + c) (by omega)) (by omega)
    rw [e5]
    by_cases z : c = 0
    · rw [if_pos z] at h7 h8
      rw [h7, if_neg (i_nle (nI_toInt (n := τ c) (by omega)) (show (-1 : Int32).toInt = -1 from rfl) (by omega))]
      exact S115 V C6 s12 N200 h2 h3 q1 q9 k6 k5 L hτ j (c + 1) (nI (τ c)) (nI (F + c)) (a9 + 1) (by omega) h9' (by rw [if_neg (by omega), ldm, if_pos z, z]) (by rw [if_neg (by omega), ldm, if_pos z, z]) N3 G3
    · rw [if_neg z] at h7 h8
      by_cases w : (ldm τ c).1 < τ c
      · rw [h7, if_neg (i_nle (nI_toInt (n := τ c) (by omega)) (nI_toInt (n := (ldm τ c).1) (by omega)) (by omega))]
        exact S115 V C6 s12 N200 h2 h3 q1 q9 k6 k5 L hτ j (c + 1) (nI (τ c)) (nI (F + c)) (a9 + 1) (by omega) h9' (by rw [if_neg (by omega), ldm, if_neg z, if_pos w]) (by rw [if_neg (by omega), ldm, if_neg z, if_pos w]) N3 G3
      · rw [h7, if_pos (i_le (nI_toInt (n := τ c) (by omega)) (nI_toInt (n := (ldm τ c).1) (by omega)) (by omega))]
        exact S115 V C6 s12 N200 h2 h3 q1 q9 k6 k5 L hτ j (c + 1) (nI (ldm τ c).1) a8 (a9 + 1) (by omega) h9' (by rw [if_neg (by omega), ldm, if_neg z, if_neg w]) (by rw [if_neg (by omega), ldm, if_neg z, if_neg w]; exact h8) N3 G3
/-- the reference -/
theorem f225_kz (hu : x.toInt = (u : Int)) (hv : y.toInt = (v : Int)) (u6 : u < 6) (v6 : v < 6) {z : Int32} : f225 x y z h = kz h u v z := by
  rw [f225_eq, i_cl (w6 hu hv (by omega) v6), i_cl (w6 hv hu (by omega) u6)]
  rfl
theorem i_six {m : Nat} (hx : x.toInt = (m : Int)) : (x / 6).toInt = ((m / 6 : Nat) : Int) ∧ (x - x / 6 * 6).toInt = ((m % 6 : Nat) : Int) := by
  have b := i_b x
  have e := i_div (y := 6) (q := 6) hx rfl
  refine ⟨e, ?_⟩
  rw [i_sub hx (i_mul e k_6 (by omega) (by omega)) (by omega) (by omega)]
  omega
theorem S226 (hC : rD k (.inl 105) 35 = C) (C6 : C ≤ 6) (V : nt_V k C) (k12 : rD k (.inl 105) 12 = N) (N200 : N ≤ 200) (FN : F + n ≤ N) (s12 : s ≤ 12) (h1 : a1.toInt = (s : Int)) (h2 : a2.toInt = (i : Int)) (h3 : a3.toInt = q) (q1 : 1 ≤ q) (q9 : q ≤ 9) (hb : b + 1500 < 2147483647) {U W : Nat → Nat}
    (L : ∀ c, c < n → ∃ u v : Nat, u < C ∧ v < C ∧ u ≠ v ∧ (u = U c ∧ v = W c ∨ u = W c ∧ v = U c) ∧ rD k (.inl 117) (F + c) = ((36 * s + 6 * u + v + 1 : Nat) : Int))
    (O : ∀ e, e < N → (e < F ∨ F + n ≤ e) → rD k (.inl 117) e = 0 ∨ ∃ s' r : Nat, s' ≠ s ∧ r < 36 ∧ s' ≤ 12 ∧ rD k (.inl 117) e = ((36 * s' + r + 1 : Nat) : Int))
    {τ : Nat → Nat} (hτ : ∀ c, τ c = zt (fb k C q) i - zt (fb (kz k (U c) (W c) 0) C q) i) : ∀ (j e c : Nat) (a6 a7 a8 : Int32) {g : mx_H}, e + j = N → c = min (e - F) n → a8.toInt = (e : Int) → a6 = (if c = 0 then -2 else nI (F + (ldm τ c).2)) → a7 = nI (ldm τ c).1 → tw_F k g → mi_S g (b + 7 * c) → (g226_68 a1 a2 a3 a4 (nI (zt (fb k C q) i)) a6 a7 a8 g).1 = ldw τ F a4 n
  | 0, e, c, a6, a7, a8, g, ee, ec, h8, h6, h7, G, st => by
    have cn : c = n := by omega
    have g12 : rD g (.inl 105) 12 = N := (congrArg Int32.toInt (G _ _ (ne_l (by decide)) (ne_l (by decide)) (ne_l (by decide)) (fun e => absurd e.2 (by decide)))).trans k12
    rw [g226_68_eq, if_pos (i_le g12 h8 (by omega))]
    unfold ldw
    by_cases z : a4 ≠ 0
    · rw [if_pos z, if_pos z, h7, cn]
    · rw [if_neg z, if_neg z, h6, cn]
  | j + 1, e, c, a6, a7, a8, g, ee, ec, h8, h6, h7, G, st => by
    have T99 : ∀ c, τ c ≤ 99 := fun c => by
      have := zt_99 (f := fb k C q) (j := i)
      rw [hτ c]
      omega
    have B := ldm_b T99 c
    have h8' := (i_add h8 k_1 (by omega) (by omega)).trans (show (e : Int) + 1 = ((e + 1 : Nat) : Int) by omega)
    have g12 : rD g (.inl 105) 12 = N := (congrArg Int32.toInt (G _ _ (ne_l (by decide)) (ne_l (by decide)) (ne_l (by decide)) (fun e => absurd e.2 (by decide)))).trans k12
    have g17 : g.2.1 (.inl 117) e = k.2.1 (.inl 117) e := tw_l G (by decide) (by decide)
    rw [g226_68_eq, if_neg (i_nle g12 h8 (by omega)), i_cl h8, g17]
    by_cases own : F ≤ e ∧ e < F + n
    · have ec' : c = e - F := by omega
      obtain ⟨u, v, u6, v6, ne, uv, hy⟩ := L c (by omega)
      rw [show F + c = e by omega] at hy
      have hy1 : (k.2.1 (.inl 117) e - 1).toInt = ((36 * s + 6 * u + v : Nat) : Int) := (i_sub hy k_1 (by omega) (by omega)).trans (by omega)
      have hd36 := i_div (y := 36) (q := 36) hy1 rfl
      obtain ⟨e6, hB⟩ := i_six hy1
      obtain ⟨-, hA⟩ := i_six e6
      rw [if_neg (i_nlt hy1 k_0 (by omega)), if_pos (i_eq hd36 h1 (by omega))]
      generalize k.2.1 (.inl 117) e - 1 = y1 at *
      generalize y1 / 6 - y1 / 6 / 6 * 6 = A at *
      generalize y1 - y1 / 6 * 6 = B' at *
      have hA' : A.toInt = (u : Int) := hA.trans (by omega)
      have hB' : B'.toInt = (v : Int) := hB.trans (by omega)
      simp only [x_h, x_let]
      rw [f225_kz hA' hB' (by omega) (by omega), f225_kz hA' hB' (by omega) (by omega), i_cl (w6 hA' hB' (by omega) (by omega))]
      have sy : k.2.1 (.inl 131) (6 * v + u) = k.2.1 (.inl 131) (6 * u + v) := i_eq (x := k.2.1 (.inl 131) (6 * v + u)) (y := k.2.1 (.inl 131) (6 * u + v)) rfl rfl (V.2 v u v6 u6).2
      have Q : nt_Q (kz k (U c) (W c) 0) (kz g u v 0) := fun x i q1 q2 => by
        by_cases z : x = 131
        · subst z
          rw [kz_r, kz_r, tw_l G (by decide) (by decide)]
          rcases uv with ⟨e1, e2⟩ | ⟨e1, e2⟩
          · rw [e1, e2]
          · rw [e1, e2]
            by_cases w : i = 6 * W c + U c ∨ i = 6 * U c + W c
            · rw [if_pos w, if_pos (by omega)]
            · rw [if_neg w, if_neg (by omega)]
        · rw [kz_o (ne_l z), kz_o (ne_l z)]
          exact tw_l G (by omega) (by omega)
      have UW : U c < C ∧ W c < C ∧ U c ≠ W c := by omega
      have Vz := kz_V V C6 UW.1 UW.2.1
      have hC' : rD (kz g u v 0) (.inl 105) 35 = C := (congrArg Int32.toInt (kz_o (ne_l (by decide)))).trans ((tw_C G).trans hC)
      have cb : c < 200 := by omega
      obtain ⟨t1, t2, t3⟩ := TTs (a1 := a2) (a2 := a3) (i := i) hC' C6 (nt_QV Q Vz) (mi_Sf (fun i => kz_o (ne_l (by decide))) (kz_o (ne_l (by decide))) st) (by omega) h2 h3 q1 q9
      rw [nt_Qb Q] at t1
      rw [t1]
      have le : zt (fb (kz k (U c) (W c) 0) C q) i ≤ zt (fb k C q) i := zt_le (fun p hp => fz_le V C6 UW.1 UW.2.1 UW.2.2 q1 q9 hp)
      rw [nI_subn le, ← hτ c]
      have T9 := T99 c
      have G' : tw_F k (kz (f220 a2 a3 (kz g u v 0)).2 u v (g.2.1 (.inl 131) (6 * u + v))) := fun a i q1 q2 q3 q4 => by
        by_cases z : a = .inl 131
        · rw [z, kz_r, tw_l G (by decide) (by decide)]
          by_cases w : i = 6 * u + v ∨ i = 6 * v + u
          · rw [if_pos w]
            rcases w with w | w
            · rw [w]
            · rw [w, sy]
          · rw [if_neg w, tw_l t2 (by decide) (by decide), kz_r, if_neg w]
            exact tw_l G (by decide) (by decide)
        · rw [kz_o z, t2 a i q1 q2 q3 q4, kz_o z]
          exact G a i q1 q2 q3 q4
      have st' : mi_S (kz (f220 a2 a3 (kz g u v 0)).2 u v (g.2.1 (.inl 131) (6 * u + v))) (b + 7 * (c + 1)) := mi_Sf (fun i => kz_o (ne_l (by decide))) (kz_o (ne_l (by decide))) (t3.up (by omega))
      have e5 : a8 = nI (F + c) := i_eq h8 (nI_toInt (n := F + c) (by omega)) (by omega)
      by_cases z : c = 0
      · rw [if_pos z] at h6
        rw [h6, if_pos (by decide)]
        exact S226 hC C6 V k12 N200 FN s12 h1 h2 h3 q1 q9 hb L O hτ j (e + 1) (c + 1) a8 (nI (τ c)) (a8 + 1) (by omega) (by omega) h8' (by rw [if_neg (by omega), ldm, if_pos z, e5, z]) (by rw [ldm, if_pos z, z]) G' st'
      · rw [if_neg z] at h6
        rw [if_neg (show ¬ a6 < 0 from i_nlt (x := a6) (p := ((F + (ldm τ c).2 : Nat) : Int)) (by rw [h6]; exact nI_toInt (by omega)) k_0 (by omega))]
        by_cases w : (ldm τ c).1 < τ c
        · rw [h7, if_pos (i_lt (nI_toInt (n := (ldm τ c).1) (by omega)) (nI_toInt (n := τ c) (by omega)) (by omega))]
          exact S226 hC C6 V k12 N200 FN s12 h1 h2 h3 q1 q9 hb L O hτ j (e + 1) (c + 1) a8 (nI (τ c)) (a8 + 1) (by omega) (by omega) h8' (by rw [if_neg (by omega), ldm, if_neg z, if_pos w, e5]) (by rw [ldm, if_neg z, if_pos w]) G' st'
        · rw [h7, if_neg (i_nlt (nI_toInt (n := (ldm τ c).1) (by omega)) (nI_toInt (n := τ c) (by omega)) (by omega))]
          exact S226 hC C6 V k12 N200 FN s12 h1 h2 h3 q1 q9 hb L O hτ j (e + 1) (c + 1) a6 (nI (ldm τ c).1) (a8 + 1) (by omega) (by omega) h8' (by rw [if_neg (by omega), ldm, if_neg z, if_neg w]; exact h6) (by rw [ldm, if_neg z, if_neg w]) G' st'
    · have nx := S226 hC C6 V k12 N200 FN s12 h1 h2 h3 q1 q9 hb L O hτ j (e + 1) c a6 a7 (a8 + 1) (g := g) (by omega) (by omega) h8' h6 h7 G st
      rcases O e (by omega) (by omega) with w | ⟨s', r, ne, r36, s'12, w⟩
      · have hy1 := i_sub (show (k.2.1 (.inl 117) e).toInt = 0 from w) k_1 (by omega) (by omega)
        rw [if_pos (i_lt hy1 k_0 (by omega))]
        exact nx
      · have hy1 : (k.2.1 (.inl 117) e - 1).toInt = ((36 * s' + r : Nat) : Int) := (i_sub w k_1 (by omega) (by omega)).trans (by omega)
        have hd36 := i_div (y := 36) (q := 36) hy1 rfl
        rw [if_neg (i_nlt hy1 k_0 (by omega)), if_neg (i_ne hd36 h1 (by omega))]
        exact nx
theorem aw_led (I : sf_I hr) (A : rs_A hc hr S N) (st : mi_S hr b) (hb : b + 2000 < 2147483647) : (f115 a1 a2 a3 a4 hc).1 = (f226 a1 a2 a3 a4 hr).1 := by
  obtain ⟨A1, A2, A3, A4, A5, A6, A7, A8, A9, A10⟩ := id A
  have K := f115_eq a1 a2 a3 a4 hc
  have T := f226_eq a1 a2 a3 a4 hr
  rcases C166 (a := a1) A with ⟨s, lt, h1, e1, e1'⟩ | ⟨e1, e1'⟩
  · obtain ⟨C, n, F, Ds⟩ := (A9 s lt).2
    obtain ⟨c1, c6, fn, d1, d2, d3, d4, d5, d6, d7, d8, d9, d10⟩ := id Ds
    rw [e1] at K
    simp only [x_opt] at K
    rw [if_neg (by rw [e1']; exact n10)] at T
    rcases ton_in (a2 := a2) (a3 := a3) (S := S) Ds (by omega) h1 with ⟨z1, z2, z3, z4, z5⟩ | ⟨z1, z2⟩
    · rw [if_neg (by rw [z1]; exact n10), w_ws] at K
      rw [if_neg (by rw [z2]; exact n10), if_neg (by rw [z3]; exact n10)] at T
      by_cases w4 : f173 a4 0 1 ≠ 0
      · rw [if_pos w4] at K T
        obtain ⟨NN, KF, R, R3, R4⟩ := nt_load (t := 0) I A4 lt A1 A2 Ds h1 rfl
        have V := nt_take I A4 lt A1 A2 Ds h1
        have st' := rn_Fs R st
        have tm0 := fl_t (k := f208 a1 hr) Ds (by omega) h1 (fun _ => rfl) (fun _ => rfl) (fun i hi => (R3 i hi).2.2)
        have len := fl_len (k := f208 a1 hr) C
        rw [tm0] at z2
        obtain ⟨i, im, hi⟩ := ton_n z2 (by omega)
        have kr : ∀ q i, ¬ (128 ≤ q ∧ q ≤ 131) → ¬ (q = 105 ∧ i = 35) → (f208 a1 hr).2.1 (.inl q) i = hr.2.1 (.inl q) i := R.2.2.2
        generalize f208 a1 hr = k at *
        simp only [x_h, x_let] at K T
        obtain ⟨t1, F1⟩ := TTc (a1 := a2) NN V hi (rfl : a3.toInt = a3.toInt) z4 z5
        obtain ⟨y1, y2, y3⟩ := TTs (a1 := a2) NN.2.2.1 c6 V st' (by omega) hi (rfl : a3.toInt = a3.toInt) z4 z5
        rw [t1] at K
        rw [y1] at T
        have N1 := nt_cm NN F1
        have G1 : ∀ o i, o < 30 → (f33 0 a2 a3 (f22 0 s hc)).2.2.1 (.inr (s, o)) i = hc.2.1 (.inr (s, o)) i := fun o i ho => by
          rw [cm_s F1 ho, KF.2.2.2 s o i (by omega)]
        have ln : ∀ u v, u < C → v < C → ∀ c, rs_k hc hr s C F c u v → k.2.1 (.inl 131) (6 * u + v) = hc.2.1 (.inr (s, 7)) c - hc.2.1 (.inr (s, 8)) c ∧ k.2.1 (.inl 131) (6 * v + u) = hc.2.1 (.inr (s, 7)) c - hc.2.1 (.inr (s, 8)) c := fun u v hu hv c w => by
          obtain ⟨p1, p2, p3, p4, p5, p6, p7, p8, p9, p10, p11, p12, p13⟩ := w
          rw [R4 u v hu hv, R4 v u hv hu]
          unfold rn_l
          rw [if_pos (by omega), if_pos (by omega), p8, p9, p10, p11]
          exact ⟨rfl, rfl⟩
        have L1 : ∀ c, c < n → ∃ u v : Nat, rs_k hc hr s C F c u v ∧ (u = (rD hc (.inr (s, 5)) c).toNat ∧ v = (rD hc (.inr (s, 6)) c).toNat ∨ u = (rD hc (.inr (s, 6)) c).toNat ∧ v = (rD hc (.inr (s, 5)) c).toNat) := fun c hc' => by
          obtain ⟨u, v, w⟩ := d7 c hc'
          refine ⟨u, v, w, ?_⟩
          obtain ⟨p1, p2, p3, p4, p5, -⟩ := w
          omega
        have KK := S115 (n := n) (F := F) (a4 := a4) (s := s) (U := fun c => (rD hc (.inr (s, 5)) c).toNat) (W := fun c => (rD hc (.inr (s, 6)) c).toNat) V c6 (by omega) (by omega) hi (rfl : a3.toInt = a3.toInt) z4 z5 d3 d4 (fun c hc' => by
          obtain ⟨u, v, w, uv⟩ := L1 c hc'
          obtain ⟨l1, l2⟩ := ln u v w.1 w.2.1 c w
          obtain ⟨p1, p2, p3, p4, p5, -⟩ := w
          rcases uv with ⟨w1, w2⟩ | ⟨w1, w2⟩
          · rw [w1, w2] at l1 l2
            exact ⟨by omega, by omega, by omega, by omega, by omega, l1, l2⟩
          · rw [w1, w2] at l1 l2
            exact ⟨by omega, by omega, by omega, by omega, by omega, l2, l1⟩) (fun _ => rfl) n 0 (-1) (-2) 0 (by omega) rfl rfl rfl N1 G1
        have TT := S226 (n := n) (F := F) (N := N) (a1 := a1) (a4 := a4) (s := s) (b := b + 7) (U := fun c => (rD hc (.inr (s, 5)) c).toNat) (W := fun c => (rD hc (.inr (s, 6)) c).toNat) NN.2.2.1 c6 V ((congrArg Int32.toInt (kr 105 12 (by decide) (by decide))).trans A6) A2 fn (by omega) h1 hi (rfl : a3.toInt = a3.toInt) z4 z5 (by omega) (fun c hc' => by
          obtain ⟨u, v, w, uv⟩ := L1 c hc'
          obtain ⟨p1, p2, p3, p4, p5, p6, p7, p8, p9, p10, p11, p12, p13⟩ := w
          exact ⟨u, v, p1, p2, p3, uv, (congrArg Int32.toInt (kr 117 _ (by decide) (fun z => absurd z.1 (by decide)))).trans p12⟩) (fun e he no => by
          have r17 : rD k (.inl 117) e = rD hr (.inl 117) e := congrArg Int32.toInt (kr 117 _ (by decide) (fun z => absurd z.1 (by decide)))
          rw [r17]
          rcases (A10 e he).2 with ⟨w, -⟩ | ⟨s', m, l', w1, w2⟩
          · exact Or.inl (congrArg Int32.toInt w)
          · obtain ⟨C', n', F', D'⟩ := (A9 s' l').2
            obtain ⟨-, c6', fn', g1, g2, g3, g4, g5, g6, g7, -⟩ := D'
            obtain ⟨u, v, p1, p2, p3, p4, p5, p6, p7, p8, p9, p10, p11, p12, p13⟩ := g7 m (by omega)
            refine Or.inr ⟨s', 6 * u + v, fun q => ?_, by omega, by omega, ?_⟩
            · subst q
              omega
            · rw [show e = F' + m by omega, p12]
              omega) (fun _ => rfl) N 0 0 (-2) 0 0 (by omega) (by omega) rfl rfl rfl y2 y3
        rw [K, T]
        exact KK.trans TT.symm
      · rw [if_neg w4] at K T
        rw [K, T]
    · rw [if_pos z1] at K
      rcases z2 with z2 | z2
      · rw [if_pos z2] at T
        rw [K, T]
      · by_cases z3 : f173 a2 0 (f195 a1 hr - 1) = 0
        · rw [if_pos z3] at T
          rw [K, T]
        · rw [if_neg z3, if_pos z2] at T
          rw [K, T]
  · rw [e1] at K
    simp only [x_opt] at K
    rw [if_pos e1'] at T
    rw [K, T]
end MLD
