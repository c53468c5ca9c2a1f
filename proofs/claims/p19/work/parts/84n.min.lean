/-! ===== the reference's way to the sums ===== -/
section MI
variable {h g g0 k hc hr : mx_H} {C t c n r u kk S T d a : Nat} {a1 a2 a3 a4 a5 a6 a7 a8 x y w : Int32} {l v : Int64} {M : Nat → Nat → Int64} {p q : Int} {cc cc0 : Int32 → Int32 → mx_H → Int64 × mx_H}
abbrev l64D (M : Nat → Nat → Int64) (n d S T : Nat) : Int64 := lp_D (· + ·) (· * ·) (- ·) 0 1 M n d S T
abbrev l64r (f : Nat → Int64) (T k j : Nat) (s : Int64) (b : Bool) : Int64 := lp_r (· + ·) (- ·) f T k j s b
/-- what laying the matrix leaves alone -/
def lm_F (h g : mx_H) : Prop := (∀ b i, b ≠ .inl 134 → ¬ (b = .inl 105 ∧ i = 37) → g.2.1 b i = h.2.1 b i) ∧ ∀ b i, b ≠ .inl 132 → g.2.2.1 b i = h.2.2.1 b i
theorem ne_l {i j : Nat} (e : i ≠ j) : (Sum.inl i : mx_A) ≠ .inl j := fun q => e (Sum.inl.inj q)
theorem M17 (hC : rD k (.inl 105) 35 = C) (C6 : C ≤ 6) : ∀ (j c : Nat) (a3 : Int32) {g : mx_H}, c + j = C → a3.toInt = (c : Int) → lm_F k g → rD g (.inl 105) 37 = (fl k c).length → (∀ i, i < (fl k c).length → rD g (.inl 134) i = ((fl k c).getD i 0 : Nat)) → ∃ g', g209_17 a1 a2 a3 g = g209_65 a1 a2 0 g' ∧ lm_F k g' ∧ rD g' (.inl 105) 37 = (fl k C).length ∧ ∀ i, i < (fl k C).length → rD g' (.inl 134) i = ((fl k C).getD i 0 : Nat)
  | 0, c, a3, g, e, h3, F, R, O => by
    have ec : c = C := by omega
    subst ec
    refine ⟨g, ?_, F, R, O⟩
    rw [g209_17_eq, if_pos (show g.2.1 (.inl 105) 35 ≤ a3 from i_le (p := (c : Int)) (by rw [F.1 _ _ (ne_l (by decide +kernel)) (fun z => absurd z.2 (by decide +kernel))]; exact hC) h3 (by omega))]
  | j + 1, c, a3, g, e, h3, F, R, O => by
    have h3' := (i_add h3 k_1 (by omega) (by omega)).trans (show (c : Int) + 1 = ((c + 1 : Nat) : Int) by omega)
    have len := fl_len (k := k) c
    rw [g209_17_eq, if_neg (show ¬ g.2.1 (.inl 105) 35 ≤ a3 from i_nle (p := (C : Int)) (by rw [F.1 _ _ (ne_l (by decide +kernel)) (fun z => absurd z.2 (by decide +kernel))]; exact hC) h3 (by omega)), i_cl h3, F.1 (.inl 130) c (ne_l (by decide +kernel)) (fun z => absurd z.1 (ne_l (by decide +kernel)))]
    by_cases z : k.2.1 (.inl 130) c = 0
    · have fe : fl k (c + 1) = fl k c ++ [c] := by
        rw [fl, if_pos z]
      rw [if_pos z, i_cl R]
      refine M17 hC C6 j (c + 1) (a3 + 1) (by omega) h3' ⟨fun b i b1 b2 => (if_neg b2).trans ((rI_a b1).trans (F.1 b i b1 b2)), F.2⟩ ?_ (fun i hi => ?_)
      · rw [fe, List.length_append]
        unfold rD
        rw [rI_s, rN (by decide +kernel)]
        exact (i_add R k_1 (by omega) (by omega)).trans (by show _ = (((fl k c).length + 1 : Nat) : Int); omega)
      · rw [fe, List.length_append] at hi
        have hi : i < (fl k c).length + 1 := hi
        unfold rD
        rw [rN (by decide +kernel), fe]
        by_cases il : i = (fl k c).length
        · rw [il, fl_end, rI_s]
          exact h3
        · rw [rI_i il, fl_get (by omega)]
          exact O i (by omega)
    · have fe : fl k (c + 1) = fl k c := by
        rw [fl, if_neg z]
      rw [if_neg z]
      refine M17 hC C6 j (c + 1) (a3 + 1) (by omega) h3' F ?_ ?_
      · rw [fe]
        exact R
      · rw [fe]
        exact O
theorem M93 (hC : rD k (.inl 105) 35 = C) (C6 : C ≤ 6) (V : nt_V k C) (F : lm_F k g) (h4 : a4.toInt = (a : Int)) (ha : a < C) : ∀ (j c : Nat) (a5 a6 : Int32), c + j = C → a6.toInt = (c : Int) → a5.toInt = rD k (.inl 129) a + zs k a c → ∃ a' : Int32, g209_93 a1 a2 a3 a4 a5 a6 g = g209_129 a1 a2 a3 a4 a' 0 g ∧ a'.toInt = rD k (.inl 129) a + zs k a C
  | 0, c, a5, a6, e, h6, h5 => by
    refine ⟨a5, ?_, (show c = C by omega) ▸ h5⟩
    rw [g209_93_eq, if_pos (show g.2.1 (.inl 105) 35 ≤ a6 from i_le (p := (C : Int)) (by rw [F.1 _ _ (ne_l (by decide +kernel)) (fun z => absurd z.2 (by decide +kernel))]; exact hC) h6 (by omega))]
  | j + 1, c, a5, a6, e, h6, h5 => by
    obtain ⟨b1, b2⟩ := (V.2 a c ha (by omega)).1
    obtain ⟨b3, b4⟩ := zs_b V ha c (by omega)
    obtain ⟨b5, b6⟩ := (V.1 a ha).1
    have w := w6 h4 h6 (show a ≤ 12 by omega) (show c < 6 by omega)
    have h5' := i_add h5 (show (k.2.1 (.inl 131) (6 * a + c)).toInt = rD k (.inl 131) (6 * a + c) from rfl) (by omega) (by omega)
    rw [g209_93_eq, if_neg (show ¬ g.2.1 (.inl 105) 35 ≤ a6 from i_nle (p := (C : Int)) (by rw [F.1 _ _ (ne_l (by decide +kernel)) (fun z => absurd z.2 (by decide +kernel))]; exact hC) h6 (by omega)), i_cl w, F.1 (.inl 131) _ (ne_l (by decide +kernel)) (fun z => absurd z.1 (ne_l (by decide +kernel)))]
    exact M93 hC C6 V F h4 ha j (c + 1) _ (a6 + 1) (by omega) ((i_add h6 k_1 (by omega) (by omega)).trans (by omega)) (h5'.trans (by
      have zz : zs k a (c + 1) = zs k a c + rD k (.inl 131) (6 * a + c) := rfl
      omega))
/-- the rows so far -/
def lm_M (k g : mx_H) (C r c : Nat) (p q : Int) : Prop := lm_F k g ∧ rD g (.inl 105) 37 = (fl k C).length ∧ (∀ i, i < (fl k C).length → rD g (.inl 134) i = ((fl k C).getD i 0 : Nat)) ∧ ∀ i j, i < (fl k C).length → j < (fl k C).length → (i < r ∨ i = r ∧ j < c) → g.2.2.1 (.inl 132) (6 * i + j) = Int64.ofInt (zm k (fl k C) C p q i j)
theorem M129 (C6 : C ≤ 6) (V : nt_V k C) (h1 : a1.toInt = p) (h2 : a2.toInt = q) (h3 : a3.toInt = (r : Int)) (hr' : r < (fl k C).length) (h4 : a4.toInt = ((fl k C).getD r 0 : Nat)) (h5 : a5.toInt = rD k (.inl 129) ((fl k C).getD r 0) + zs k ((fl k C).getD r 0) C) : ∀ (j c : Nat) (a6 : Int32) {g : mx_H}, c + j = (fl k C).length → a6.toInt = (c : Int) → lm_M k g C r c p q → ∃ g', g209_129 a1 a2 a3 a4 a5 a6 g = g209_65 a1 a2 (a3 + 1) g' ∧ lm_M k g' C (r + 1) 0 p q
  | 0, c, a6, g, e, h6, LM => by
    obtain ⟨F, R, O, E⟩ := LM
    refine ⟨g, ?_, F, R, O, fun i j hi hj l => E i j hi hj (by omega)⟩
    rw [g209_129_eq, if_pos (i_le R h6 (by omega))]
  | j + 1, c, a6, g, e, h6, LM => by
    obtain ⟨F, R, O, E⟩ := LM
    have len := fl_len (k := k) C
    have lc := fl_gl (k := k) (c := C) (i := c) (by omega)
    have lr := fl_gl (k := k) (c := C) (i := r) hr'
    have h6' := (i_add h6 k_1 (by omega) (by omega)).trans (show (c : Int) + 1 = ((c + 1 : Nat) : Int) by omega)
    have w1 := w6 h3 h6 (show r ≤ 12 by omega) (show c < 6 by omega)
    have oc : (g.2.1 (.inl 134) c).toInt = (((fl k C).getD c 0 : Nat) : Int) := O c (by omega)
    have w2 := w6 h4 oc (show (fl k C).getD r 0 ≤ 12 by omega) (show (fl k C).getD c 0 < 6 by omega)
    have st : g209_129 a1 a2 a3 a4 a5 a6 g = g209_129 a1 a2 a3 a4 a5 (a6 + 1) (mx_uL g (.inl 132) (6 * r + c) (Int64.ofInt (zm k (fl k C) C p q r c))) := by
      rw [g209_129_eq, if_neg (i_nle R h6 (by omega))]
      by_cases rc : r = c
      · rw [if_neg (show ¬ a3 ≠ a6 from fun z => z (i_eq h3 h6 (by omega))), i_cl w1, i_cl h4, F.1 (.inl 128) _ (ne_l (by decide +kernel)) (fun z => absurd z.1 (ne_l (by decide +kernel))), i64_32, i64_32, i64_32, i64_32, h1, h2, h5]
        congr 2
        unfold zm
        rw [if_pos rc, Int64.ofInt_sub, Int64.ofInt_mul, Int64.ofInt_mul]
      · rw [if_pos (show a3 ≠ a6 from i_ne h3 h6 (by omega)), i_cl w1, i_cl h6, i_cl w2, F.1 (.inl 131) _ (ne_l (by decide +kernel)) (fun z => absurd z.1 (ne_l (by decide +kernel))), i64_32, i64_32, h2]
        congr 2
        unfold zm
        rw [if_neg rc, Int64.ofInt_mul, Int64.ofInt_neg]
    rw [st]
    refine M129 C6 V h1 h2 h3 hr' h4 h5 j (c + 1) (a6 + 1) (by omega) h6' ⟨⟨F.1, fun b i hb => (rL_a hb).trans (F.2 b i hb)⟩, R, O, fun i j hi hj l => ?_⟩
    by_cases z : 6 * i + j = 6 * r + c
    · have : i = r ∧ j = c := by omega
      rw [this.1, this.2, rL_s]
    · rw [rL_i z]
      exact E i j hi hj (by omega)
theorem M65 (hC : rD k (.inl 105) 35 = C) (C6 : C ≤ 6) (V : nt_V k C) (h1 : a1.toInt = p) (h2 : a2.toInt = q) : ∀ (j r : Nat) (a3 : Int32) {g : mx_H}, r + j = (fl k C).length → a3.toInt = (r : Int) → lm_M k g C r 0 p q → lm_M k (g209_65 a1 a2 a3 g) C (fl k C).length 0 p q
  | 0, r, a3, g, e, h3, LM => by
    rw [g209_65_eq, if_pos (i_le LM.2.1 h3 (by omega))]
    exact (show r = (fl k C).length by omega) ▸ LM
  | j + 1, r, a3, g, e, h3, LM => by
    have len := fl_len (k := k) C
    have lr := fl_gl (k := k) (c := C) (i := r) (by omega)
    have h3' := (i_add h3 k_1 (by omega) (by omega)).trans (show (r : Int) + 1 = ((r + 1 : Nat) : Int) by omega)
    have oc : (g.2.1 (.inl 134) r).toInt = (((fl k C).getD r 0 : Nat) : Int) := LM.2.2.1 r (by omega)
    rw [g209_65_eq, if_neg (i_nle LM.2.1 h3 (by omega)), i_cl h3, i_cl oc, LM.1.1 (.inl 129) _ (ne_l (by decide +kernel)) (fun z => absurd z.1 (ne_l (by decide +kernel)))]
    obtain ⟨a', e1, e2⟩ := M93 (a1 := a1) (a2 := a2) (a3 := a3) hC C6 V LM.1 oc lr C 0 (k.2.1 (.inl 129) ((fl k C).getD r 0)) 0 (by omega) rfl (by unfold zs; exact (Int.add_zero _).symm)
    rw [e1]
    obtain ⟨g', e3, LM'⟩ := M129 (a1 := a1) (a2 := a2) C6 V h1 h2 h3 (by omega) oc e2 (fl k C).length 0 0 (by omega) rfl LM
    rw [e3]
    exact M65 hC C6 V h1 h2 j (r + 1) (a3 + 1) (by omega) h3' LM'
/-- the reference's matrix is laid -/
theorem S209 (hC : rD k (.inl 105) 35 = C) (C6 : C ≤ 6) (V : nt_V k C) (h1 : a1.toInt = p) (h2 : a2.toInt = q) : lm_M (mx_uI k (.inl 105) 42 (k.2.1 (.inl 105) 42 + 1)) (f209 a1 a2 k) C (fl k C).length 0 p q := by
  have fe : ∀ c, fl (mx_uI k (.inl 105) 42 (k.2.1 (.inl 105) 42 + 1)) c = fl k c := fun c => by
    induction c with
    | zero => rfl
    | succ c ih =>
      unfold fl
      rw [ih, rN (by decide +kernel)]
  have hC' : rD (mx_uI k (.inl 105) 42 (k.2.1 (.inl 105) 42 + 1)) (.inl 105) 35 = C := by
    unfold rD
    rw [rI_i (by decide +kernel)]
    exact hC
  have V' : nt_V (mx_uI k (.inl 105) 42 (k.2.1 (.inl 105) 42 + 1)) C := by
    unfold nt_V rD
    rw [rN (by decide +kernel), rN (by decide +kernel), rN (by decide +kernel)]
    exact V
  obtain ⟨g', e1, F, R, O⟩ := M17 (a1 := a1) (a2 := a2) hC' C6 C 0 0 (g := mx_uI (mx_uI k (.inl 105) 42 (k.2.1 (.inl 105) 42 + 1)) (.inl 105) 37 0) (by omega) rfl ⟨fun b i b1 b2 => if_neg b2, fun _ _ _ => rfl⟩ (by
    unfold rD
    rw [rI_s]
    rfl) (fun i hi => absurd hi (Nat.not_lt_zero _))
  rw [f209_eq, e1]
  have := M65 (a1 := a1) (a2 := a2) hC' C6 V' h1 h2 (fl (mx_uI k (.inl 105) 42 (k.2.1 (.inl 105) 42 + 1)) C).length 0 0 (g := g') (by omega) rfl ⟨F, R, O, fun i j hi hj l => by omega⟩
  rw [fe] at this
  exact this
/-! sets as bits -/
theorem mi_b : ∀ S, S < 64 → ∀ i, i < 6 → (((nI S >>> (nI i &&& 31)) &&& 1 ≠ 0) ↔ S.testBit i = true) := by decide +kernel
theorem mi_c : ∀ S, S < 64 → ∀ i, i < 6 → S.testBit i = true → (nI S &&& ((1 <<< (nI i &&& 31)) ^^^ (-1)) = nI (S - 2 ^ i) ∧ 2 ^ i ≤ S) := by decide +kernel
theorem mi_l : ∀ n, n < 7 → ∀ S, S < 2 ^ n → S ≠ 0 → (S.testBit (lp_low S n 0) = true ∧ lp_low S n 0 < n ∧ lp_bits n (S - 2 ^ lp_low S n 0) + 1 = lp_bits n S ∧ ∀ i, i < lp_low S n 0 → S.testBit i = false) := by decide +kernel
theorem mi_0 : ∀ n, n < 7 → ∀ S, S < 2 ^ n → lp_bits n S = 0 → S = 0 := by decide +kernel
theorem mi_n : ∀ n, n < 7 → ∀ S, S < 2 ^ n → lp_bits n S ≤ n := by decide +kernel
theorem mi_2 : ∀ n, n < 7 → 2 ^ n ≤ 64 ∧ (1 : Int32) <<< (nI n &&& 31) = nI (2 ^ n) := by decide +kernel
theorem mi_6 : ∀ n, n < 7 → ∀ S, S < 2 ^ n → lp_bits n S = lp_bits 6 S := by decide +kernel
theorem mi_k : ∀ S, S < 64 → S ≠ 0 → (nI S &&& (nI S - 1) = nI (S &&& (S - 1)) ∧ S &&& (S - 1) < 64 ∧ lp_bits 6 (S &&& (S - 1)) + 1 = lp_bits 6 S) := by decide +kernel
theorem S211 : ∀ (b S : Nat) (a1 : Int32), S < 64 → lp_bits 6 S = b → g211_4 a1 (nI S) = a1 + nI b
  | 0, S, a1, hS, hb => by
    have : S = 0 := mi_0 6 (by decide +kernel) S (by omega) hb
    subst this
    rw [g211_4_eq, if_pos (by decide +kernel)]
    exact (Int32.add_zero _).symm
  | b + 1, S, a1, hS, hb => by
    have S0 : S ≠ 0 := fun z => by
      subst z
      have z0 : lp_bits 6 0 = 0 := by decide +kernel
      omega
    obtain ⟨z1, z2, z3⟩ := mi_k S hS S0
    have ne : ¬ nI S = 0 := i_ne (nI_toInt (by omega)) k_0 (by omega)
    rw [g211_4_eq, if_neg ne, z1, S211 b _ (a1 + 1) z2 (by omega), Int32.add_assoc]
    congr 1
    rw [show (1 : Int32) = nI 1 from rfl, nI_add]
    exact congrArg nI (by omega)
/-- less than enough depth is enough -/
theorem lp_D_up (n7 : n < 7) : ∀ (d S T : Nat), S < 2 ^ n → lp_bits n S ≤ d → l64D M n d S T = l64D M n (d + 1) S T
  | 0, S, T, hS, hb => by
    have : S = 0 := mi_0 n n7 S hS (by omega)
    subst this
    rfl
  | d + 1, S, T, hS, hb => by
    show lp_D _ _ _ _ _ _ _ _ _ _ = lp_D _ _ _ _ _ _ _ _ _ _
    rw [lp_D, lp_D]
    cases z : Nat.beq S 0 with
    | true => rfl
    | false =>
      have S0 : S ≠ 0 := fun q => by
        subst q
        cases z
      obtain ⟨z1, z2, z3, z4⟩ := mi_l n n7 S hS S0
      show lp_r _ _ _ _ _ _ _ _ = lp_r _ _ _ _ _ _ _ _
      congr 1
      funext j
      exact congrArg _ (lp_D_up n7 d _ _ (Nat.lt_of_le_of_lt (Nat.sub_le _ _) hS) (by omega))
theorem lp_D_n (n7 : n < 7) (hS : S < 2 ^ n) (hb : lp_bits n S ≤ d) : ∀ e, l64D M n d S T = l64D M n (d + e) S T
  | 0 => rfl
  | e + 1 => (lp_D_n n7 hS hb e).trans (lp_D_up n7 (d + e) S T hS (by omega))
theorem lp_D_N (n7 : n < 7) (hS : S < 2 ^ n) (hb : lp_bits n S ≤ d) (hd : d ≤ n) : l64D M n d S T = l64D M n n S T := by
  have := lp_D_n (M := M) (T := T) n7 hS hb (n - d)
  rw [show d + (n - d) = n by omega] at this
  exact this
/-- the memo: what is marked with the stamp is right -/
def mi_M (g : mx_H) (n : Nat) (M : Nat → Nat → Int64) : Prop := ∀ S T, S < 2 ^ n → T < 2 ^ n → g.2.1 (.inl 136) (64 * S + T) = g.2.1 (.inl 105) 42 → g.2.2.1 (.inl 135) (64 * S + T) = l64D M n n S T
/-- what the minors leave alone; the marks are old ones or the stamp -/
def mi_F (h g : mx_H) : Prop := (∀ b i, b ≠ .inl 136 → g.2.1 b i = h.2.1 b i) ∧ (∀ b i, b ≠ .inl 135 → g.2.2.1 b i = h.2.2.1 b i) ∧ ∀ i, g.2.1 (.inl 136) i = h.2.1 (.inl 136) i ∨ g.2.1 (.inl 136) i = h.2.1 (.inl 105) 42
theorem mi_F.refl : mi_F h h := ⟨fun _ _ _ => rfl, fun _ _ _ => rfl, fun _ => Or.inl rfl⟩
theorem mi_F.trans {g1 : mx_H} (A : mi_F h g) (B : mi_F g g1) : mi_F h g1 := by
  obtain ⟨A1, A2, A3⟩ := A
  obtain ⟨B1, B2, B3⟩ := B
  refine ⟨fun b i hb => (B1 b i hb).trans (A1 b i hb), fun b i hb => (B2 b i hb).trans (A2 b i hb), fun i => ?_⟩
  rcases B3 i with z | z
  · rw [z]
    exact A3 i
  · rw [z, A1 _ _ (ne_l (by decide +kernel))]
    exact Or.inr rfl
/-- the table in the heap -/
def mi_T (g : mx_H) (n : Nat) (M : Nat → Nat → Int64) : Prop := rD g (.inl 105) 37 = n ∧ ∀ i j, i < n → j < n → g.2.2.1 (.inl 132) (6 * i + j) = M i j
theorem mi_T.ff (F : mi_F h g) (T : mi_T h n M) : mi_T g n M := by
  refine ⟨?_, fun i j hi hj => (F.2.1 _ _ (ne_l (by decide +kernel))).trans (T.2 i j hi hj)⟩
  unfold rD
  rw [F.1 _ _ (ne_l (by decide +kernel))]
  exact T.1
/-- what a call for sets of at most d rows does -/
def mi_R (cc cc0 : Int32 → Int32 → mx_H → Int64 × mx_H) (n d : Nat) (M : Nat → Nat → Int64) : Prop := ∀ (S T : Nat) (g : mx_H), S < 2 ^ n → T < 2 ^ n → lp_bits n S ≤ d → mi_T g n M → mi_M g n M → cc (nI S) (nI T) g = cc0 (nI S) (nI T) g ∧ (cc (nI S) (nI T) g).1 = l64D M n n S T ∧ mi_F g (cc (nI S) (nI T) g).2 ∧ mi_M (cc (nI S) (nI T) g).2 n M
theorem lg_z (q : lg_cmp l 0 = 0) : l = 0 := by
  unfold lg_cmp at q
  by_cases h1 : l > 0
  · rw [if_pos h1] at q
    exact absurd q (by decide +kernel)
  · rw [if_neg h1] at q
    by_cases h2 : l = 0
    · exact h2
    · rw [if_neg h2] at q
      exact absurd q (by decide +kernel)
theorem M36 (n7 : n < 7) (hS : S < 2 ^ n) (S0 : S ≠ 0) : ∀ (j i : Nat), i + j = lp_low S n 0 → g210_36 cc (nI S) a2 a3 (nI i) g = g210_60 cc (nI S) a2 a3 (nI (lp_low S n 0)) 0 0 0 g
  | 0, i, e => by
    obtain ⟨z1, z2, z3, z4⟩ := mi_l n n7 S hS S0
    have := (mi_2 n n7).1
    have ei : i = lp_low S n 0 := by omega
    rw [ei, g210_36_eq, if_pos ((mi_b S (by omega) _ (by omega)).mpr z1)]
  | j + 1, i, e => by
    obtain ⟨z1, z2, z3, z4⟩ := mi_l n n7 S hS S0
    have := (mi_2 n n7).1
    rw [g210_36_eq, if_neg (fun q => by
      have := (mi_b S (by omega) i (by omega)).mp q
      rw [z4 i (by omega)] at this
      cases this), show (1 : Int32) = nI 1 from rfl, nI_add]
    exact M36 n7 hS S0 j (i + 1) (by omega)
theorem M60 (n7 : n < 7) (hS : S < 2 ^ n) (S0 : S ≠ 0) (hT : T < 2 ^ n) (hd : lp_bits n S ≤ d + 1) (IH : mi_R cc cc0 n d M) : ∀ (j c : Nat) {g : mx_H}, c + j = n → mi_T g n M → mi_M g n M → ∀ (s : Int64) (b : Bool), g210_60 cc (nI S) (nI T) (nI (64 * S + T)) (nI (lp_low S n 0)) s (bif b then 1 else 0) (nI c) g = g210_60 cc0 (nI S) (nI T) (nI (64 * S + T)) (nI (lp_low S n 0)) s (bif b then 1 else 0) (nI c) g ∧ (g210_60 cc (nI S) (nI T) (nI (64 * S + T)) (nI (lp_low S n 0)) s (bif b then 1 else 0) (nI c) g).1 = l64r (fun j => M (lp_low S n 0) j * l64D M n n (S - 2 ^ lp_low S n 0) (T - 2 ^ j)) T j c s b ∧ ∃ g', (g210_60 cc (nI S) (nI T) (nI (64 * S + T)) (nI (lp_low S n 0)) s (bif b then 1 else 0) (nI c) g).2 = mx_uL (mx_uI g' (.inl 136) (64 * S + T) (g'.2.1 (.inl 105) 42)) (.inl 135) (64 * S + T) (l64r (fun j => M (lp_low S n 0) j * l64D M n n (S - 2 ^ lp_low S n 0) (T - 2 ^ j)) T j c s b) ∧ mi_F g g' ∧ mi_M g' n M
  | 0, c, g, e, T1, M1, s, b => by
    have ec : c = n := by omega
    subst ec
    have n64 := (mi_2 c n7).1
    have ep := nI_toInt (n := 64 * S + T) (by omega)
    have eq : ∀ cc, g210_60 cc (nI S) (nI T) (nI (64 * S + T)) (nI (lp_low S c 0)) s (bif b then 1 else 0) (nI c) g = (s, mx_uL (mx_uI g (.inl 136) (64 * S + T) (g.2.1 (.inl 105) 42)) (.inl 135) (64 * S + T) s) := fun cc => by
      rw [g210_60_eq, if_pos (i_le T1.1 (nI_toInt (by omega)) (by omega)), i_cl ep]
    rw [eq, eq]
    exact ⟨rfl, rfl, g, rfl, mi_F.refl, M1⟩
  | j + 1, c, g, e, T1, M1, s, b => by
    obtain ⟨z1, z2, z3, z4⟩ := mi_l n n7 S hS S0
    have n64 := (mi_2 n n7).1
    have w1 := w6 (nI_toInt (n := lp_low S n 0) (by omega)) (nI_toInt (n := c) (by omega)) (by omega) (show c < 6 by omega)
    have c1 : nI c + 1 = nI (c + 1) := by
      rw [show (1 : Int32) = nI 1 from rfl, nI_add]
    have nle : ¬ g.2.1 (.inl 105) 37 ≤ nI c := i_nle T1.1 (nI_toInt (by omega)) (by omega)
    have IL := fun (g1 : mx_H) (T2 : mi_T g1 n M) (M2 : mi_M g1 n M) (s' : Int64) (b' : Bool) => M60 n7 hS S0 hT hd IH j (c + 1) (g := g1) (by omega) T2 M2 s' b'
    cases tb : T.testBit c with
    | false =>
      have es' : l64r (fun j => M (lp_low S n 0) j * l64D M n n (S - 2 ^ lp_low S n 0) (T - 2 ^ j)) T (j + 1) c s b = l64r (fun j => M (lp_low S n 0) j * l64D M n n (S - 2 ^ lp_low S n 0) (T - 2 ^ j)) T j (c + 1) s b := by
        show lp_r _ _ _ _ _ _ _ _ = _
        rw [lp_r, tb]
        rfl
      have eq : ∀ cc, g210_60 cc (nI S) (nI T) (nI (64 * S + T)) (nI (lp_low S n 0)) s (bif b then 1 else 0) (nI c) g = g210_60 cc (nI S) (nI T) (nI (64 * S + T)) (nI (lp_low S n 0)) s (bif b then 1 else 0) (nI (c + 1)) g := fun cc => by
        rw [g210_60_eq, if_neg nle, if_neg (fun q => by
          have := (mi_b T (by omega) c (by omega)).mp q
          rw [tb] at this
          cases this), c1]
      rw [eq, eq, es']
      exact IL g T1 M1 s b
    | true =>
      have em : g.2.2.1 (.inl 132) (6 * lp_low S n 0 + c) = M (lp_low S n 0) c := T1.2 _ _ z2 (by omega)
      obtain ⟨y1, y2⟩ := mi_c T (by omega) c (by omega) tb
      obtain ⟨y3, y4⟩ := mi_c S (by omega) _ (show lp_low S n 0 < 6 by omega) z1
      have es' : l64r (fun j => M (lp_low S n 0) j * l64D M n n (S - 2 ^ lp_low S n 0) (T - 2 ^ j)) T (j + 1) c s b = l64r (fun j => M (lp_low S n 0) j * l64D M n n (S - 2 ^ lp_low S n 0) (T - 2 ^ j)) T j (c + 1) (s + (bif b then -(M (lp_low S n 0) c * l64D M n n (S - 2 ^ lp_low S n 0) (T - 2 ^ c)) else M (lp_low S n 0) c * l64D M n n (S - 2 ^ lp_low S n 0) (T - 2 ^ c))) (!b) := by
        show lp_r _ _ _ _ _ _ _ _ = _
        rw [lp_r, tb]
        rfl
      have bb : ∀ A B : Int64 × mx_H, (if (bif b then (1 : Int32) else 0) ≠ 0 then A else B) = bif b then A else B := fun A B => by
        cases b with
        | true => exact if_pos n10
        | false => exact if_neg (fun w => w rfl)
      have bn : ∀ A B : Int64 × mx_H, (if (bif b then (1 : Int32) else 0) = 0 then A else B) = bif b then B else A := fun A B => by
        cases b with
        | true => exact if_neg n10
        | false => exact if_pos rfl
      by_cases zz : M (lp_low S n 0) c = 0
      · have s0 : s + (bif b then -(M (lp_low S n 0) c * l64D M n n (S - 2 ^ lp_low S n 0) (T - 2 ^ c)) else M (lp_low S n 0) c * l64D M n n (S - 2 ^ lp_low S n 0) (T - 2 ^ c)) = s := by
          rw [zz, Int64.zero_mul]
          cases b with
          | true =>
            show s + -0 = s
            rw [Int64.neg_zero, Int64.add_zero]
          | false => exact Int64.add_zero s
        rw [s0] at es'
        have eq : ∀ cc, g210_60 cc (nI S) (nI T) (nI (64 * S + T)) (nI (lp_low S n 0)) s (bif b then 1 else 0) (nI c) g = g210_60 cc (nI S) (nI T) (nI (64 * S + T)) (nI (lp_low S n 0)) s (bif !b then 1 else 0) (nI (c + 1)) g := fun cc => by
          rw [g210_60_eq, if_neg nle, if_pos ((mi_b T (by omega) c (by omega)).mpr tb), i_cl w1, em, zz, if_pos (by decide +kernel), c1, bb]
          cases b <;> rfl
        rw [eq, eq, es']
        exact IL g T1 M1 s (!b)
      · have nz : ¬ lg_cmp (M (lp_low S n 0) c) 0 = 0 := fun q => zz (lg_z q)
        obtain ⟨i1, i2, i3, i4⟩ := IH (S - 2 ^ lp_low S n 0) (T - 2 ^ c) g (Nat.lt_of_le_of_lt (Nat.sub_le _ _) hS) (Nat.lt_of_le_of_lt (Nat.sub_le _ _) hT) (by omega) T1 M1
        have eq : ∀ cc, g210_60 cc (nI S) (nI T) (nI (64 * S + T)) (nI (lp_low S n 0)) s (bif b then 1 else 0) (nI c) g = g210_60 cc (nI S) (nI T) (nI (64 * S + T)) (nI (lp_low S n 0)) (s + (bif b then -(M (lp_low S n 0) c * (cc (nI (S - 2 ^ lp_low S n 0)) (nI (T - 2 ^ c)) g).1) else M (lp_low S n 0) c * (cc (nI (S - 2 ^ lp_low S n 0)) (nI (T - 2 ^ c)) g).1)) (bif !b then 1 else 0) (nI (c + 1)) (cc (nI (S - 2 ^ lp_low S n 0)) (nI (T - 2 ^ c)) g).2 := fun cc => by
          rw [g210_60_eq, if_neg nle, if_pos ((mi_b T (by omega) c (by omega)).mpr tb), i_cl w1, em, if_neg nz, c1, y1, y3]
          simp only [x_let]
          rw [bn, bb, bb]
          cases b <;> rfl
        rw [eq, eq, ← i1, i2, es']
        obtain ⟨r1, r2, g', r3, r4, r5⟩ := IL _ (T1.ff i3) i4 (s + (bif b then -(M (lp_low S n 0) c * l64D M n n (S - 2 ^ lp_low S n 0) (T - 2 ^ c)) else M (lp_low S n 0) c * l64D M n n (S - 2 ^ lp_low S n 0) (T - 2 ^ c))) (!b)
        exact ⟨r1, r2, g', r3, i3.trans r4, r5⟩
/-- the minors, by depth -/
theorem M210 (n7 : n < 7) : ∀ (d K : Nat), d ≤ n → d ≤ K → mi_R (ff210 (K + 1)) (ff210 (d + 1)) n d M
  | 0, K, dn, hK => fun S T g hS hT hb T1 M1 => by
    have : S = 0 := mi_0 n n7 S hS (by omega)
    subst this
    have e : ∀ cc, fb210 cc (nI 0) (nI T) g = (1, g) := fun cc => by
      rw [fb210_eq, if_neg (show ¬ nI 0 ≠ 0 by decide +kernel)]
    rw [ff210_eq, ff210_eq, e, e]
    refine ⟨rfl, ?_, mi_F.refl, M1⟩
    show (1 : Int64) = lp_D _ _ _ _ _ _ n n 0 T
    cases n <;> rfl
  | d + 1, K, dn, hK => fun S T g hS hT hb T1 M1 => by
    obtain ⟨K', rfl⟩ : ∃ K', K = K' + 1 := ⟨K - 1, by omega⟩
    have IH := M210 n7 d K' (by omega) (by omega)
    have n64 := (mi_2 n n7).1
    rw [ff210_eq, ff210_eq (d + 1)]
    have ep : 64 * nI S + nI T = nI (64 * S + T) := i_nI ((i_add (i_mul ivt_64 (nI_toInt (n := S) (by omega)) (by omega) (by omega)) (nI_toInt (n := T) (by omega)) (by omega) (by omega)).trans (by omega))
    have ep' := nI_toInt (n := 64 * S + T) (by omega)
    by_cases S0 : S = 0
    · subst S0
      have e : ∀ cc, fb210 cc (nI 0) (nI T) g = (1, g) := fun cc => by
        rw [fb210_eq, if_neg (show ¬ nI 0 ≠ 0 by decide +kernel)]
      rw [e, e]
      refine ⟨rfl, ?_, mi_F.refl, M1⟩
      show (1 : Int64) = lp_D _ _ _ _ _ _ n n 0 T
      cases n <;> rfl
    · have ne : nI S ≠ 0 := i_ne (nI_toInt (by omega)) k_0 (by omega)
      by_cases z : g.2.1 (.inl 136) (64 * S + T) = g.2.1 (.inl 105) 42
      · have e : ∀ cc, fb210 cc (nI S) (nI T) g = (g.2.2.1 (.inl 135) (64 * S + T), g) := fun cc => by
          rw [fb210_eq, if_pos ne, ep, i_cl ep', if_neg (fun w => w z)]
        rw [e, e]
        exact ⟨rfl, M1 S T hS hT z, mi_F.refl, M1⟩
      · have e : ∀ cc, fb210 cc (nI S) (nI T) g = g210_60 cc (nI S) (nI T) (nI (64 * S + T)) (nI (lp_low S n 0)) 0 0 0 g := fun cc => by
          rw [fb210_eq, if_pos ne, ep, i_cl ep', if_pos z]
          exact M36 n7 hS S0 (lp_low S n 0) 0 (by omega)
        obtain ⟨r1, r2, g', r3, r4, r5⟩ := M60 n7 hS S0 hT hb IH n 0 (g := g) (by omega) T1 M1 0 false
        have vD : l64r (fun j => M (lp_low S n 0) j * l64D M n n (S - 2 ^ lp_low S n 0) (T - 2 ^ j)) T n 0 0 false = l64D M n n S T := by
          obtain ⟨n', rfl⟩ : ∃ n', n = n' + 1 := ⟨n - 1, by omega⟩
          obtain ⟨z1, z2, z3, z4⟩ := mi_l (n' + 1) n7 S hS S0
          have bn := mi_n (n' + 1) n7 S hS
          show _ = lp_D _ _ _ _ _ _ (n' + 1) (n' + 1) S T
          rw [lp_D]
          have nb : Nat.beq S 0 = false := by
            cases q : Nat.beq S 0 with
            | true => exact absurd (Nat.eq_of_beq_eq_true q) S0
            | false => rfl
          rw [nb]
          show _ = lp_r _ _ _ _ _ _ _ _
          congr 1
          funext j
          exact congrArg _ (lp_D_N n7 (Nat.lt_of_le_of_lt (Nat.sub_le _ _) hS) (by omega) (Nat.le_succ n')).symm
        rw [e, e]
        refine ⟨r1, r2.trans vD, ?_, ?_⟩
        · show mi_F g (g210_60 _ _ _ _ _ _ (bif false then 1 else 0) (nI 0) g).2
          rw [r3]
          obtain ⟨f1, f2, f3⟩ := r4
          refine ⟨fun b i hb => (rI_a hb).trans (f1 b i hb), fun b i hb => (rL_a hb).trans (f2 b i hb), fun i => ?_⟩
          by_cases ip : i = 64 * S + T
          · refine Or.inr ?_
            show (mx_uI g' _ _ _).2.1 _ _ = _
            rw [ip, rI_s, f1 _ _ (ne_l (by decide +kernel))]
          · show (mx_uI g' _ _ _).2.1 _ _ = _ ∨ (mx_uI g' _ _ _).2.1 _ _ = _
            rw [rI_i ip]
            exact f3 i
        · show mi_M (g210_60 _ _ _ _ _ _ (bif false then 1 else 0) (nI 0) g).2 n M
          rw [r3, vD]
          intro S' T' hS' hT' hm
          have hm : (mx_uI g' (.inl 136) (64 * S + T) (g'.2.1 (.inl 105) 42)).2.1 (.inl 136) (64 * S' + T') = (mx_uI g' (.inl 136) (64 * S + T) (g'.2.1 (.inl 105) 42)).2.1 (.inl 105) 42 := hm
          by_cases ip : 64 * S' + T' = 64 * S + T
          · have : S' = S ∧ T' = T := by omega
            rw [this.1, this.2, rL_s]
          · rw [rL_i ip]
            rw [rI_i ip, rN (by decide +kernel)] at hm
            exact r5 S' T' hS' hT' hm
theorem S210 (n7 : n < 7) (hS : S < 2 ^ n) (hT : T < 2 ^ n) (T1 : mi_T g n M) (M1 : mi_M g n M) : (f210 (nI S) (nI T) g).1 = l64D M n n S T ∧ mi_F g (f210 (nI S) (nI T) g).2 ∧ mi_M (f210 (nI S) (nI T) g).2 n M := by
  have bn := mi_n n n7 S hS
  have e : f210 (nI S) (nI T) g = ff210 (n + 1) (nI S) (nI T) g := x_lim_eq (n := n + 1) (fun k hk => by
    obtain ⟨K, rfl⟩ : ∃ K, k = K + 1 := ⟨k - 1, by omega⟩
    exact (M210 (M := M) n7 n K (Nat.le_refl _) (by omega) S T g hS hT bn T1 M1).1)
  rw [e]
  exact (M210 (M := M) n7 n n (Nat.le_refl _) (Nat.le_refl _) S T g hS hT bn T1 M1).2
/-- the sums, set by set -/
theorem S31 (n7 : n < 7) : ∀ (j S : Nat) {g : mx_H}, S + j = 2 ^ n → mi_T g n M → mi_M g n M → (∀ i, i ≤ n → g.2.2.1 (.inl 133) i = lp_S (· + ·) (· * ·) (- ·) 0 1 M n i S) → (∀ i, i ≤ n → (g212_31 (nI S) g).2.2.1 (.inl 133) i = lp_E (· + ·) (· * ·) (- ·) 0 1 M n i) ∧ (∀ b i, b ≠ .inl 136 → (g212_31 (nI S) g).2.1 b i = g.2.1 b i) ∧ (∀ b i, b ≠ .inl 135 → b ≠ .inl 133 → (g212_31 (nI S) g).2.2.1 b i = g.2.2.1 b i) ∧ ∀ i, (g212_31 (nI S) g).2.1 (.inl 136) i = g.2.1 (.inl 136) i ∨ (g212_31 (nI S) g).2.1 (.inl 136) i = g.2.1 (.inl 105) 42
  | 0, S, g, e, T1, M1, E => by
    have n64 := (mi_2 n n7).1
    have en : g.2.1 (.inl 105) 37 = nI n := i_nI T1.1
    rw [g212_31_eq, en, (mi_2 n n7).2, if_pos (i_le (nI_toInt (by omega)) (nI_toInt (by omega)) (by omega))]
    refine ⟨fun i hi => ?_, fun _ _ _ => rfl, fun _ _ _ _ => rfl, fun _ => Or.inl rfl⟩
    rw [E i hi, show S = 2 ^ n by omega]
    rfl
  | j + 1, S, g, e, T1, M1, E => by
    have n64 := (mi_2 n n7).1
    have en : g.2.1 (.inl 105) 37 = nI n := i_nI T1.1
    have hS : S < 2 ^ n := by omega
    obtain ⟨r1, r2, r3⟩ := S210 n7 hS hS T1 M1
    have bn := mi_n n n7 S hS
    have fb : f211 (nI S) = nI (lp_bits n S) := by
      rw [f211_eq, S211 (lp_bits n S) S 0 (by omega) (mi_6 n n7 S hS).symm, Int32.zero_add]
    have st : g212_31 (nI S) g = g212_31 (nI (S + 1)) (mx_uL (f210 (nI S) (nI S) g).2 (.inl 133) (lp_bits n S) (g.2.2.1 (.inl 133) (lp_bits n S) + l64D M n n S S)) := by
      rw [g212_31_eq, en, (mi_2 n n7).2, if_neg (i_nle (nI_toInt (by omega)) (nI_toInt (by omega)) (by omega)), fb]
      simp only [x_val, x_let]
      rw [i_cl (nI_toInt (n := lp_bits n S) (by omega)), r1, show (1 : Int32) = nI 1 from rfl, nI_add]
    obtain ⟨q1, q2, q3, q4⟩ := S31 n7 j (S + 1) (g := mx_uL (f210 (nI S) (nI S) g).2 (.inl 133) (lp_bits n S) (g.2.2.1 (.inl 133) (lp_bits n S) + l64D M n n S S)) (by omega) (by
      obtain ⟨t1, t2⟩ := T1.ff r2
      exact ⟨t1, fun i j hi hj => (rL_a (ne_l (by decide +kernel))).trans (t2 i j hi hj)⟩) (fun S' T' hS' hT' hm => (rL_a (ne_l (by decide +kernel))).trans (r3 S' T' hS' hT' hm)) (fun i hi => by
      rw [lp_S]
      by_cases ib : i = lp_bits n S
      · rw [ib, rL_s, E _ bn, show Nat.beq (lp_bits n S) (lp_bits n S) = true from Nat.beq_refl _]
        rfl
      · have nb : Nat.beq (lp_bits n S) i = false := by
          cases q : Nat.beq (lp_bits n S) i with
          | true => exact absurd (Nat.eq_of_beq_eq_true q).symm ib
          | false => rfl
        rw [rL_i ib, r2.2.1 _ _ (ne_l (by decide +kernel)), nb]
        exact E i hi)
    rw [st]
    refine ⟨q1, fun b i hb => (q2 b i hb).trans (r2.1 b i hb), fun b i hb h133 => (q3 b i hb h133).trans ((rL_a h133).trans (r2.2.1 b i hb)), fun i => ?_⟩
    have e42 : (f210 (nI S) (nI S) g).2.2.1 (.inl 105) 42 = g.2.1 (.inl 105) 42 := r2.1 _ _ (ne_l (by decide +kernel))
    rcases q4 i with z | z
    · rw [z]
      exact r2.2.2 i
    · rw [z]
      exact Or.inr e42
theorem S8 (n6 : n ≤ 6) : ∀ (j c : Nat) (a3 : Int32) {g : mx_H}, c + j = n + 1 → a3.toInt = (c : Int) → rD g (.inl 105) 37 = n → (∀ i, i < c → g.2.2.1 (.inl 133) i = 0) → ∃ g', g212_8 a3 g = g212_31 0 g' ∧ g'.2.1 = g.2.1 ∧ (∀ b i, b ≠ .inl 133 → g'.2.2.1 b i = g.2.2.1 b i) ∧ ∀ i, i ≤ n → g'.2.2.1 (.inl 133) i = 0
  | 0, c, a3, g, e, h3, hn, Z => by
    refine ⟨g, ?_, rfl, fun _ _ _ => rfl, fun i hi => Z i (by omega)⟩
    rw [g212_8_eq, if_pos (i_lt hn h3 (by omega))]
  | j + 1, c, a3, g, e, h3, hn, Z => by
    obtain ⟨g', q1, q2, q3, q4⟩ := S8 n6 j (c + 1) (a3 + 1) (g := mx_uL g (.inl 133) c 0) (by omega) ((i_add h3 k_1 (by omega) (by omega)).trans (by omega)) hn (fun i hi => by
      by_cases ic : i = c
      · rw [ic, rL_s]
      · rw [rL_i ic]
        exact Z i (by omega))
    refine ⟨g', ?_, q2, fun b i hb => (q3 b i hb).trans (rL_a hb), q4⟩
    rw [g212_8_eq, if_neg (i_nlt hn h3 (by omega)), i_cl h3]
    exact q1
/-- the stamp is ahead of all marks -/
def mi_S (h : mx_H) (b : Nat) : Prop := (0 ≤ rD h (.inl 105) 42 ∧ rD h (.inl 105) 42 ≤ b) ∧ ∀ i, rD h (.inl 136) i ≤ rD h (.inl 105) 42
theorem S212 {b : Nat} (hC : rD k (.inl 105) 35 = C) (C6 : C ≤ 6) (V : nt_V k C) (h1 : a1.toInt = p) (h2 : a2.toInt = q) (st : mi_S k b) (hb : b < 2147483647) : (∀ i, i ≤ (fl k C).length → (f212 a1 a2 k).2.2.1 (.inl 133) i = Int64.ofInt (zE (zB (zm k (fl k C) C p q)) (fl k C).length i)) ∧ rD (f212 a1 a2 k) (.inl 105) 37 = (fl k C).length ∧ mi_S (f212 a1 a2 k) (b + 1) ∧ (∀ a i, a ≠ .inl 134 → a ≠ .inl 136 → ¬ (a = .inl 105 ∧ (i = 37 ∨ i = 42)) → (f212 a1 a2 k).2.1 a i = k.2.1 a i) := by
  have len := fl_len (k := k) C
  obtain ⟨F, R, O, E⟩ := S209 (a1 := a1) (a2 := a2) hC C6 V h1 h2
  have fe : ∀ c, fl (mx_uI k (.inl 105) 42 (k.2.1 (.inl 105) 42 + 1)) c = fl k c := fun c => by
    induction c with
    | zero => rfl
    | succ c ih =>
      unfold fl
      rw [ih, rN (by decide +kernel)]
  rw [fe] at R O E
  have ez : ∀ i j, zm (mx_uI k (.inl 105) 42 (k.2.1 (.inl 105) 42 + 1)) (fl k C) C p q i j = zm k (fl k C) C p q i j := fun i j => by
    have zz : ∀ a c, zs (mx_uI k (.inl 105) 42 (k.2.1 (.inl 105) 42 + 1)) a c = zs k a c := fun a c => by
      induction c with
      | zero => rfl
      | succ c ih =>
        unfold zs rD
        rw [ih, rN (by decide +kernel)]
    unfold zm
    rw [zz]
    unfold rD
    rw [rN (by decide +kernel), rN (by decide +kernel), rN (by decide +kernel)]
  obtain ⟨⟨s1, s2⟩, s3⟩ := st
  have e42 : (f209 a1 a2 k).2.1 (.inl 105) 42 = k.2.1 (.inl 105) 42 + 1 := (F.1 _ _ (ne_l (by decide +kernel)) (fun z => absurd z.2 (by decide +kernel))).trans rI_s
  have i42 : (k.2.1 (.inl 105) 42 + 1).toInt = rD k (.inl 105) 42 + 1 := i_add rfl k_1 (by omega) (by omega)
  have e136 : ∀ i, (f209 a1 a2 k).2.1 (.inl 136) i = k.2.1 (.inl 136) i := fun i => (F.1 _ _ (ne_l (by decide +kernel)) (fun z => absurd z.1 (ne_l (by decide +kernel)))).trans (rI_a (ne_l (by decide +kernel)))
  obtain ⟨g', q1, q2, q3, q4⟩ := S8 (by omega) ((fl k C).length + 1) 0 0 (g := f209 a1 a2 k) (by omega) rfl R (fun i hi => absurd hi (Nat.not_lt_zero _))
  have n7 : (fl k C).length < 7 := by omega
  obtain ⟨r1, r2, r3, r4⟩ := S31 (M := fun i j => Int64.ofInt (zB (zm k (fl k C) C p q) i j)) n7 (2 ^ (fl k C).length) 0 (g := g') (by omega) (by
    refine ⟨?_, fun i j hi hj => ?_⟩
    · unfold rD
      rw [q2]
      exact R
    · rw [q3 _ _ (ne_l (by decide +kernel)), E i j hi hj (by omega), ez]
      dsimp only
      rw [zB_e (by omega) (by omega)]
      unfold zm
      by_cases ij : i = j
      · subst ij
        rfl
      · rw [if_neg ij, if_neg (fun z => ij z.symm), (V.2 _ _ (fl_gl hi) (fl_gl hj)).2]) (fun S' T' hS' hT' hm => by
    rw [q2, e136, e42] at hm
    have := s3 (64 * S' + T')
    unfold rD at this
    rw [hm, i42] at this
    unfold rD at this
    omega) (fun i hi => by
    rw [q4 i hi]
    rfl)
  have ef : f212 a1 a2 k = g212_31 (nI 0) g' := by
    rw [f212_eq]
    simp only [x_h]
    exact q1
  rw [ef]
  refine ⟨fun i hi => (r1 i hi).trans zE_64, ?_, ⟨?_, fun i => ?_⟩, fun a i n1 n2 n3 => ?_⟩
  · unfold rD
    rw [r2 _ _ (ne_l (by decide +kernel)), q2]
    exact R
  · unfold rD
    rw [r2 _ _ (ne_l (by decide +kernel)), q2, e42, i42]
    omega
  · unfold rD
    rw [r2 (.inl 105) _ (ne_l (by decide +kernel)), q2, e42, i42]
    rcases r4 i with z | z
    · rw [z, q2, e136]
      have := s3 i
      unfold rD at this
      unfold rD
      omega
    · rw [z, q2, e42, i42]
      omega
  · rw [r2 a i n2, q2, F.1 a i n1 (fun z => n3 ⟨z.1, Or.inl z.2⟩)]
    exact if_neg (fun z => n3 ⟨z.1, Or.inr z.2⟩)
end MI

