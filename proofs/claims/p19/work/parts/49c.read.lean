/-! ===== reference: what is known of a shape that is read ===== -/
def sd_Zp (h : mx_H) (s : Int32) (K : Int) : Prop := ∀ p : Nat, ((36 * s.toNatClampNeg + p : Nat) : Int) < K → (h.2.1 (.inl 113) (36 * s.toNatClampNeg + p)).toInt = 0
def sd_Z (h : mx_H) (s : Int32) : Prop := (h.2.1 (.inl 106) s.toNatClampNeg).toInt = 0 ∧ ∀ p : Nat, p < 36 → (h.2.1 (.inl 113) (36 * s.toNatClampNeg + p)).toInt = 0
theorem sd_Zp0 {h : mx_H} {s : Int32} {K : Int} (h0 : 0 ≤ s.toInt) (hK : K ≤ 36 * s.toInt) : sd_Zp h s K := fun p hp => by
  have := sf_cl h0
  omega
theorem sd_Zpc {h : mx_H} {s : Int32} {K K' : Int} (q : sd_Zp h s K) (hK : K' ≤ K) : sd_Zp h s K' := fun p hp => q p (by omega)
theorem sd_Zpu {h : mx_H} {s : Int32} {K : Int} {a : mx_A} {i r : Nat} {v : Int32} (e : sf_rg a i = r) (hr : (r != 325) = true) (q : sd_Zp h s K) : sd_Zp (mx_uI h a i v) s K := by
  subst e
  rw [bne_iff_ne] at hr
  intro p hp
  rw [show (mx_uI h a i v).2.1 (.inl 113) (36 * s.toNatClampNeg + p) = h.2.1 (.inl 113) (36 * s.toNatClampNeg + p) from if_neg (fun c => hr (by rw [← c.1]; rfl))]
  exact q p hp
theorem sd_Zps {h : mx_H} {s x v : Int32} {K : Int} (q : sd_Zp h s K) (h0 : 0 ≤ x.toInt) (hx : x.toInt = K) (hv : v.toInt = 0) : sd_Zp (mx_uI h (.inl 113) x.toNatClampNeg v) s (K + 1) := by
  intro p hp
  by_cases e : 36 * s.toNatClampNeg + p = x.toNatClampNeg
  · rw [e, sf_rs]
    exact hv
  · rw [sf_roi e]
    have := sf_cl h0
    exact q p (by omega)
theorem sd_Zi {h : mx_H} {s : Int32} {K : Int} (h0 : 0 ≤ s.toInt) (q : sd_Zp h s K) (hK : 36 * s.toInt + 36 ≤ K) (hc : (h.2.1 (.inl 106) s.toNatClampNeg).toInt = 0) : sd_Z h s := ⟨hc, fun p hp => q p (by have := sf_cl h0; omega)⟩
/-- corners are heavy, pieces stiff and both ways, the list names them -/
def sd_Gb (h : mx_H) (S n : Nat) : Prop :=
  (∀ c : Nat, (c : Int) < (h.2.1 (.inl 106) S).toInt → 1 ≤ (h.2.1 (.inl 107) (6 * S + c)).toInt) ∧
  (∀ p : Nat, p < 36 → 0 < (h.2.1 (.inl 113) (36 * S + p)).toInt → 1 ≤ (h.2.1 (.inl 111) (36 * S + p)).toInt) ∧
  (∀ a b : Nat, a < 6 → b < 6 → h.2.1 (.inl 113) (36 * S + 6 * a + b) = h.2.1 (.inl 113) (36 * S + 6 * b + a)) ∧
  (∀ k : Nat, k < n → ∃ a b : Nat, h.2.1 (.inl 119) k = nI a ∧ h.2.1 (.inl 120) k = nI b ∧ a < 6 ∧ b < 6 ∧ a ≠ b ∧ (a : Int) < (h.2.1 (.inl 106) S).toInt ∧ (b : Int) < (h.2.1 (.inl 106) S).toInt ∧ 0 < (h.2.1 (.inl 113) (36 * S + 6 * a + b)).toInt) ∧
  (∀ k k' : Nat, k < k' → k' < n → ¬ (h.2.1 (.inl 119) k = h.2.1 (.inl 119) k' ∧ h.2.1 (.inl 120) k = h.2.1 (.inl 120) k') ∧ ¬ (h.2.1 (.inl 119) k = h.2.1 (.inl 120) k' ∧ h.2.1 (.inl 120) k = h.2.1 (.inl 119) k'))
def sd_P (h : mx_H) (S : Nat) (B : Int) (c : Nat) : Bool := decide (0 < (h.2.1 (.inl 113) (36 * S + c)).toInt) && decide ((h.2.1 (.inl 113) (36 * S + c)).toInt ≤ B)
def sd_G (h : mx_H) : Prop := ∃ S n : Nat, (h.2.1 (.inl 105) 1).toInt = S ∧ S ≤ 11 ∧ (h.2.1 (.inl 105) 19).toInt = n ∧ sd_Gb h S n ∧ n ≤ sd_C sd_CL (sd_P h S 1000)
def sd_G1 (h : mx_H) (a b : Int32) : Prop := ∃ S n A B : Nat, (h.2.1 (.inl 105) 1).toInt = S ∧ S ≤ 11 ∧ (h.2.1 (.inl 105) 19).toInt = n ∧ sd_Gb h S n ∧ n + 1 ≤ sd_C sd_CL (sd_P h S 1000) ∧ a = nI A ∧ b = nI B ∧ A < 6 ∧ B < 6 ∧ A ≠ B ∧ (A : Int) < (h.2.1 (.inl 106) S).toInt ∧ (B : Int) < (h.2.1 (.inl 106) S).toInt ∧ 0 < (h.2.1 (.inl 113) (36 * S + 6 * A + B)).toInt ∧
  ∀ k, k < n → ¬ (h.2.1 (.inl 119) k = a ∧ h.2.1 (.inl 120) k = b) ∧ ¬ (h.2.1 (.inl 119) k = b ∧ h.2.1 (.inl 120) k = a)
theorem sd_Gc {h h' : mx_H} (e1 : h'.2.1 (.inl 105) 1 = h.2.1 (.inl 105) 1) (e2 : h'.2.1 (.inl 105) 19 = h.2.1 (.inl 105) 19) (e3 : ∀ n i, n = 106 ∨ n = 107 ∨ n = 111 ∨ n = 113 ∨ n = 119 ∨ n = 120 → h'.2.1 (.inl n) i = h.2.1 (.inl n) i) (q : sd_G h) : sd_G h' := by
  unfold sd_G sd_Gb sd_P at *
  simp only [e1, e2, e3 106 _ (by simp), e3 107 _ (by simp), e3 111 _ (by simp), e3 113 _ (by simp), e3 119 _ (by simp), e3 120 _ (by simp)]
  exact q
def sd_reg (r : Nat) : Bool := r != 225 && (r != 243 && (r != 318 && (r != 319 && (r != 323 && (r != 325 && (r != 331 && r != 332))))))
theorem sd_Gu {h : mx_H} {a : mx_A} {i r : Nat} {v : Int32} (e : sf_rg a i = r) (hr : sd_reg r = true) (q : sd_G h) : sd_G (mx_uI h a i v) := by
  subst e
  unfold sd_reg at hr
  simp only [Bool.and_eq_true, bne_iff_ne] at hr
  obtain ⟨r1, r2, r3, r4, r5, r6, r7, r8⟩ := hr
  refine sd_Gc (if_neg (fun c => r1 (by rw [← c.1, ← c.2]; rfl))) (if_neg (fun c => r2 (by rw [← c.1, ← c.2]; rfl))) (fun n j hn => if_neg (fun c => ?_)) q
  rcases hn with rfl | rfl | rfl | rfl | rfl | rfl
  · exact r3 (by rw [← c.1]; rfl)
  · exact r4 (by rw [← c.1]; rfl)
  · exact r5 (by rw [← c.1]; rfl)
  · exact r6 (by rw [← c.1]; rfl)
  · exact r7 (by rw [← c.1]; rfl)
  · exact r8 (by rw [← c.1]; rfl)
theorem sd_Ge {m : Nat} {h h' : mx_H} (hE : sf_E m h h') (hm : (!m.testBit 225 && (!m.testBit 243 && (!m.testBit 318 && (!m.testBit 319 && (!m.testBit 323 && (!m.testBit 325 && (!m.testBit 331 && !m.testBit 332))))))) = true) (q : sd_G h) : sd_G h' := by
  simp only [Bool.and_eq_true, Bool.not_eq_true'] at hm
  obtain ⟨r1, r2, r3, r4, r5, r6, r7, r8⟩ := hm
  refine sd_Gc (hE.1 _ _ r1) (hE.1 _ _ r2) (fun n j hn => ?_) q
  rcases hn with rfl | rfl | rfl | rfl | rfl | rfl
  · exact hE.1 (.inl 106) j r3
  · exact hE.1 (.inl 107) j r4
  · exact hE.1 (.inl 111) j r5
  · exact hE.1 (.inl 113) j r6
  · exact hE.1 (.inl 119) j r7
  · exact hE.1 (.inl 120) j r8
theorem sd_cl {x : Int32} {n : Nat} (h : x.toInt = n) : x.toNatClampNeg = n := by
  show x.toInt.toNat = n
  omega
theorem sd_G0 {h : mx_H} {s : Int32} (hI : sf_I h) (z : sd_Z h s) (hs : s.toInt = (h.2.1 (.inl 105) 1).toInt) (h11 : s.toInt ≤ 11) (hn : (h.2.1 (.inl 105) 19).toInt = 0) : sd_G h := by
  have b := sf_rd (r := 225) (lo := 0) (hi := 12) hI (.inl 105) 1 rfl rfl
  have hc := sf_cl (x := s) (by have := b.1; omega)
  refine ⟨s.toNatClampNeg, 0, by omega, by omega, hn, ⟨fun c q => ?_, fun p hp q => ?_, fun a c ha hb => ?_, fun k hk => ?_, fun k k' hk hk' => ?_⟩, Nat.zero_le _⟩
  · rw [z.1] at q
    omega
  · rw [z.2 p hp] at q
    omega
  · apply Int32.toInt_inj.mp
    rw [show 36 * s.toNatClampNeg + 6 * a + c = 36 * s.toNatClampNeg + (6 * a + c) by omega, show 36 * s.toNatClampNeg + 6 * c + a = 36 * s.toNatClampNeg + (6 * c + a) by omega, z.2 _ (by omega), z.2 _ (by omega)]
  · omega
  · omega
theorem sd_G107 {h : mx_H} {x v s : Int32} (hI : sf_I h) (q : sd_G h) (hs : s.toInt = (h.2.1 (.inl 105) 1).toInt) (hx : x.toInt = 6 * s.toInt + (h.2.1 (.inl 106) s.toNatClampNeg).toInt) : sd_G (mx_uI h (.inl 107) x.toNatClampNeg v) := by
  obtain ⟨S, n, q1, q2, q3, ⟨d2, d3, d4, dl, dd⟩, q5⟩ := q
  have es := sd_cl (hs.trans q1)
  rw [es] at hx
  have b := sf_rd (r := 318) (lo := 0) (hi := 6) hI (.inl 106) S rfl rfl
  have hc := sf_cl (x := x) (by have := b.1; omega)
  refine ⟨S, n, q1, q2, q3, ⟨fun c hc' => ?_, d3, d4, dl, dd⟩, q5⟩
  have hc2 : (c : Int) < (h.2.1 (.inl 106) S).toInt := hc'
  rw [sf_roi (by omega)]
  exact d2 c hc2
theorem sd_G106 {h : mx_H} {s w x : Int32} (hI : sf_I h) (q : sd_G h) (hs : s.toInt = (h.2.1 (.inl 105) 1).toInt) (hw : w.toInt = (h.2.1 (.inl 106) s.toNatClampNeg).toInt + 1) (hx : x.toInt = 6 * s.toInt + (h.2.1 (.inl 106) s.toNatClampNeg).toInt) (hv : 1 ≤ (h.2.1 (.inl 107) x.toNatClampNeg).toInt) : sd_G (mx_uI h (.inl 106) s.toNatClampNeg w) := by
  obtain ⟨S, n, q1, q2, q3, ⟨d2, d3, d4, dl, dd⟩, q5⟩ := q
  have es := sd_cl (hs.trans q1)
  rw [es] at hx hw ⊢
  have b := sf_rd (r := 318) (lo := 0) (hi := 6) hI (.inl 106) S rfl rfl
  have hc := sf_cl (x := x) (by have := b.1; omega)
  have e6 : (mx_uI h (.inl 106) S w).2.1 (.inl 106) S = w := sf_rs
  refine ⟨S, n, q1, q2, q3, ⟨fun c hc' => ?_, d3, d4, fun k hk => ?_, dd⟩, q5⟩
  · rw [e6, hw] at hc'
    show 1 ≤ (h.2.1 (.inl 107) (6 * S + c)).toInt
    by_cases e : (c : Int) = (h.2.1 (.inl 106) S).toInt
    · rw [show 6 * S + c = x.toNatClampNeg by omega]
      exact hv
    · exact d2 c (by omega)
  · obtain ⟨a, b', r1, r2, r3, r4, r5, r6, r7, r8⟩ := dl k hk
    refine ⟨a, b', r1, r2, r3, r4, r5, ?_, ?_, r8⟩
    · rw [e6, hw]
      omega
    · rw [e6, hw]
      omega
/-- no piece lies there -/
def sd_no (h : mx_H) (s a b : Int32) : Prop := (h.2.1 (.inl 113) (36 * s.toNatClampNeg + 6 * a.toNatClampNeg + b.toNatClampNeg)).toInt ≤ 0
theorem sd_noi {h : mx_H} {x s a b : Int32} (hs : 0 ≤ s.toInt) (ha : 0 ≤ a.toInt) (hb : 0 ≤ b.toInt) (hx : x.toInt = 36 * s.toInt + 6 * a.toInt + b.toInt) (hv : (h.2.1 (.inl 113) x.toNatClampNeg).toInt ≤ 0) : sd_no h s a b := by
  have e1 := sf_cl hs
  have e2 := sf_cl ha
  have e3 := sf_cl hb
  have e4 := sf_cl (x := x) (by omega)
  unfold sd_no
  rw [show 36 * s.toNatClampNeg + 6 * a.toNatClampNeg + b.toNatClampNeg = x.toNatClampNeg by omega]
  exact hv
theorem sd_pr {h : mx_H} {S : Nat} {p1 p2 : Nat} {b s c : Int32} (i : Nat) : (sx_p (sx_p h p1 b s c) p2 b s c).2.1 (.inl 113) i = if i = p1 ∨ i = p2 then b else h.2.1 (.inl 113) i := by
  unfold sx_p
  rw [sf_ro (by decide +kernel), sf_ro (by decide +kernel)]
  by_cases c2 : i = p2
  · rw [c2, sf_rs, if_pos (Or.inr rfl)]
  · rw [sf_roi c2, sf_ro (by decide +kernel), sf_ro (by decide +kernel)]
    by_cases c1 : i = p1
    · rw [c1, sf_rs, if_pos (Or.inl rfl)]
    · rw [sf_roi c1, if_neg (by omega)]
theorem sd_sr {h : mx_H} {p1 p2 : Nat} {b s c : Int32} (i : Nat) : (sx_p (sx_p h p1 b s c) p2 b s c).2.1 (.inl 111) i = if i = p1 ∨ i = p2 then s else h.2.1 (.inl 111) i := by
  unfold sx_p
  rw [sf_ro (by decide +kernel)]
  by_cases c2 : i = p2
  · rw [c2, sf_rs, if_pos (Or.inr rfl)]
  · rw [sf_roi c2, sf_ro (by decide +kernel), sf_ro (by decide +kernel)]
    by_cases c1 : i = p1
    · rw [c1, sf_rs, if_pos (Or.inl rfl)]
    · rw [sf_roi c1, sf_ro (by decide +kernel), if_neg (by omega)]
/-- a piece that is read -/
theorem sf181r {E : mx_Ev} {d : Nat} {h : mx_H} {Q : Option mx_V → mx_H → Prop} {a1 a2 a3 a4 a5 a6 : Int32} (pa1 : sf_iv 0 12 a1) (pa2 : sf_iv 0 5 a2) (pa3 : sf_iv 0 5 a3) (pa4 : sf_iv 0 0 a4) (pa5 : sf_iv 1 9 a5) (pa6 : sf_iv 0 9 a6) (r0 : a1.toInt = (h.2.1 (.inl 105) 1).toInt) (r1 : ¬ a2.toInt = a3.toInt) (g_co : a2.toInt < (h.2.1 (.inl 106) a1.toNatClampNeg).toInt ∧ a3.toInt < (h.2.1 (.inl 106) a1.toNatClampNeg).toInt) (g_no : sd_no h a1 a2 a3) (g_G : sd_G h) (hI : sf_I h)
    (hQ : ∀ h', sf_I h' → sf_E 119615274011570964614121215545494918417751453251972555117034330038044304643715870801285876868448256 h h' → sd_G1 h' a2 a3 → Q none h') : mx_C E (mx_fn true) (d + 1) 181 [.inr (.inl 105), .inl (.int a1), .inl (.int a2), .inl (.int a3), .inl (.int a4), .inl (.int a5), .inl (.int a6)] h Q := by
  obtain ⟨S, n, q1, q2, q3, ⟨d2, d3, d4, dl, dd⟩, q5⟩ := g_G
  have es : a1 = nI S := Int32.toInt_inj.mp (by rw [nI_toInt (by omega)]; omega)
  subst es
  obtain ⟨A, hA, rfl⟩ := sf_of (b := 5) pa2
  obtain ⟨B, hB, rfl⟩ := sf_of (b := 5) pa3
  have e4 : a4 = 0 := Int32.toInt_inj.mp (by have := pa4.1; have := pa4.2; show a4.toInt = 0; omega)
  subst e4
  unfold sd_no at g_no
  rw [nI_clamp (by omega), nI_clamp (by omega), nI_clamp (by omega)] at g_no
  rw [nI_clamp (by omega), nI_toInt (by omega), nI_toInt (by omega)] at g_co
  rw [nI_toInt (by omega), nI_toInt (by omega)] at r1
  have hAB : A ≠ B := fun e => r1 (by rw [e])
  have h36 : 36 * (h.2.1 (.inl 105) 1).toInt ≤ ((36 * S + 6 * A + B : Nat) : Int) := by omega
  have ps0 : sf_iv 0 9 a5 := ⟨by have := pa5.1; omega, pa5.2⟩
  have p1' : sf_iv 0 201 (0 + 1) := ⟨by decide +kernel, by decide +kernel⟩
  have I1 := sf_Kbp (p := 36 * S + 6 * A + B) hI p1' ps0 pa6 h36
  have I2 := sf_Kbp (p := 36 * S + 6 * B + A) I1 p1' ps0 pa6 (show 36 * (h.2.1 (.inl 105) 1).toInt ≤ ((36 * S + 6 * B + A : Nat) : Int) by omega)
  refine sx181 (show S ≤ 12 by omega) hA hB (hQ _ I2 (sf_Ep (by decide +kernel) (by decide +kernel) (by decide +kernel) (sf_Ep (by decide +kernel) (by decide +kernel) (by decide +kernel) (sf_E0 _ _))) ?_)
  have one : (0 + 1 : Int32).toInt = 1 := rfl
  -- what lies at a place behind it
  have g0 : ∀ k, k < n → ∀ a b : Nat, h.2.1 (.inl 119) k = nI a → h.2.1 (.inl 120) k = nI b → a < 6 → b < 6 → 0 < (h.2.1 (.inl 113) (36 * S + 6 * a + b)).toInt → ¬ (a = A ∧ b = B) ∧ ¬ (a = B ∧ b = A) := fun k hk a b r1 r2 r3 r4 r8 => by
    refine ⟨fun c => ?_, fun c => ?_⟩
    · rw [c.1, c.2] at r8
      omega
    · rw [c.1, c.2, d4 B A (by omega) (by omega)] at r8
      omega
  refine ⟨S, n, A, B, q1, q2, q3, ⟨d2, fun p hp hq => ?_, fun a b ha hb => ?_, fun k hk => ?_, dd⟩, ?_, rfl, rfl, by omega, by omega, hAB, g_co.1, g_co.2, ?_, fun k hk => ?_⟩
  · rw [sd_pr (S := S)] at hq
    rw [sd_sr]
    by_cases c : 36 * S + p = 36 * S + 6 * A + B ∨ 36 * S + p = 36 * S + 6 * B + A
    · rw [if_pos c]
      exact pa5.1
    · rw [if_neg c] at hq ⊢
      exact d3 p hp hq
  · rw [sd_pr (S := S), sd_pr (S := S)]
    by_cases c : 36 * S + 6 * a + b = 36 * S + 6 * A + B ∨ 36 * S + 6 * a + b = 36 * S + 6 * B + A
    · rw [if_pos c, if_pos]
      rcases c with c | c
      · obtain ⟨-, c2, c3⟩ := sd_dig ha hb (show A < 6 by omega) (show B < 6 by omega) c
        exact Or.inr (by rw [c2, c3])
      · obtain ⟨-, c2, c3⟩ := sd_dig ha hb (show B < 6 by omega) (show A < 6 by omega) c
        exact Or.inl (by rw [c2, c3])
    · rw [if_neg c, if_neg]
      · exact d4 a b ha hb
      · intro c'
        refine c ?_
        rcases c' with c' | c'
        · obtain ⟨-, c2, c3⟩ := sd_dig hb ha (show A < 6 by omega) (show B < 6 by omega) c'
          exact Or.inr (by rw [c2, c3])
        · obtain ⟨-, c2, c3⟩ := sd_dig hb ha (show B < 6 by omega) (show A < 6 by omega) c'
          exact Or.inl (by rw [c2, c3])
  · obtain ⟨a, b, r1, r2, r3, r4, r5, r6, r7, r8⟩ := dl k hk
    refine ⟨a, b, r1, r2, r3, r4, r5, r6, r7, ?_⟩
    rw [sd_pr (S := S)]
    by_cases c : 36 * S + 6 * a + b = 36 * S + 6 * A + B ∨ 36 * S + 6 * a + b = 36 * S + 6 * B + A
    · rw [if_pos c, one]
      decide
    · rw [if_neg c]
      exact r8
  · obtain ⟨c, hc, hcc⟩ := sd_pair (show A < 6 by omega) (show B < 6 by omega) hAB
    refine Nat.le_trans (Nat.add_le_add_right q5 1) (sd_C_lt2 (fun x _ hx => ?_) hc (fun hx => ?_) ?_)
    · unfold sd_P at *
      rw [sd_pr (S := S)]
      by_cases e : 36 * S + x = 36 * S + 6 * A + B ∨ 36 * S + x = 36 * S + 6 * B + A
      · rw [if_pos e, one]
        decide
      · rw [if_neg e]
        exact hx
    · unfold sd_P at hx
      simp only [Bool.and_eq_true, decide_eq_true_eq] at hx
      rcases hcc with e | e
      · rw [e, show 36 * S + (6 * A + B) = 36 * S + 6 * A + B by omega] at hx
        omega
      · rw [e, show 36 * S + (6 * B + A) = 36 * S + 6 * B + A by omega, d4 B A (by omega) (by omega)] at hx
        omega
    · unfold sd_P
      rw [sd_pr (S := S), if_pos (by omega), one]
      decide
  · rw [sd_pr (S := S), if_pos (Or.inl rfl), one]
    decide
  · obtain ⟨a, b, r1, r2, r3, r4, r5, r6, r7, r8⟩ := dl k hk
    have := g0 k hk a b r1 r2 r3 r4 r8
    have inj : ∀ x y : Nat, x < 6 → y < 6 → nI x = nI y → x = y := fun x y hx hy e => by
      have := congrArg Int32.toInt e
      rw [nI_toInt (by omega), nI_toInt (by omega)] at this
      omega
    refine ⟨fun c => this.1 ⟨inj _ _ r3 (by omega) (r1.symm.trans c.1), inj _ _ r4 (by omega) (r2.symm.trans c.2)⟩, fun c => this.2 ⟨inj _ _ r3 (by omega) (r1.symm.trans c.1), inj _ _ r4 (by omega) (r2.symm.trans c.2)⟩⟩
theorem sd_G1n {h : mx_H} {a b : Int32} (q : sd_G1 h a b) : 0 ≤ (h.2.1 (.inl 105) 19).toInt ∧ (h.2.1 (.inl 105) 19).toInt ≤ 14 := by
  obtain ⟨S, n, A, B, q1, q2, q3, -, q5, -⟩ := q
  have := sd_C_15 (sd_P h S 1000)
  omega
/-- the piece comes to the list -/
theorem sd_G1G {h : mx_H} {a b x1 x2 w : Int32} (q : sd_G1 h a b) (e1 : x1.toInt = (h.2.1 (.inl 105) 19).toInt) (e2 : x2.toInt = (h.2.1 (.inl 105) 19).toInt) (ew : w.toInt = (h.2.1 (.inl 105) 19).toInt + 1) : sd_G (mx_uI (mx_uI (mx_uI h (.inl 119) x1.toNatClampNeg a) (.inl 120) x2.toNatClampNeg b) (.inl 105) 19 w) := by
  obtain ⟨S, n, A, B, q1, q2, q3, ⟨d2, d3, d4, dl, dd⟩, q5, rfl, rfl, q6, q7, q8, q9, q10, q11, q12⟩ := q
  rw [sd_cl (e1.trans q3), sd_cl (e2.trans q3)]
  generalize hg : mx_uI (mx_uI (mx_uI h (.inl 119) n (nI A)) (.inl 120) n (nI B)) (.inl 105) 19 w = h'
  have eA : ∀ k, h'.2.1 (.inl 119) k = if k = n then nI A else h.2.1 (.inl 119) k := fun k => by
    subst hg
    rw [sf_ro (by decide +kernel), sf_ro (by decide +kernel)]
    by_cases c : k = n
    · rw [c, sf_rs, if_pos rfl]
    · rw [sf_roi c, if_neg c]
  have eB : ∀ k, h'.2.1 (.inl 120) k = if k = n then nI B else h.2.1 (.inl 120) k := fun k => by
    subst hg
    rw [sf_ro (by decide +kernel)]
    by_cases c : k = n
    · rw [c, sf_rs, if_pos rfl]
    · rw [sf_roi c, sf_ro (by decide +kernel), if_neg c]
  have eo : ∀ m i, m = 106 ∨ m = 107 ∨ m = 111 ∨ m = 113 → h'.2.1 (.inl m) i = h.2.1 (.inl m) i := fun m i hm => by
    subst hg
    rw [sf_ro (fun c => by have := Sum.inl.inj c; omega), sf_ro (fun c => by have := Sum.inl.inj c; omega), sf_ro (fun c => by have := Sum.inl.inj c; omega)]
  refine ⟨S, n + 1, ?_, q2, ?_, ⟨fun c hc => ?_, fun p hp hq => ?_, fun a b ha hb => ?_, fun k hk => ?_, fun k k' hk hk' => ?_⟩, ?_⟩
  · subst hg
    exact q1
  · subst hg
    rw [sf_rs, ew]
    omega
  · rw [eo _ _ (by simp)] at hc ⊢
    exact d2 c hc
  · rw [eo _ _ (by simp)] at hq ⊢
    exact d3 p hp hq
  · rw [eo _ _ (by simp), eo _ _ (by simp)]
    exact d4 a b ha hb
  · by_cases c : k = n
    · refine ⟨A, B, by rw [eA, if_pos c], by rw [eB, if_pos c], q6, q7, q8, ?_, ?_, ?_⟩
      · rw [eo _ _ (by simp)]
        exact q9
      · rw [eo _ _ (by simp)]
        exact q10
      · rw [eo _ _ (by simp)]
        exact q11
    · obtain ⟨a, b, r1, r2, r3, r4, r5, r6, r7, r8⟩ := dl k (by omega)
      refine ⟨a, b, by rw [eA, if_neg c]; exact r1, by rw [eB, if_neg c]; exact r2, r3, r4, r5, ?_, ?_, ?_⟩
      · rw [eo _ _ (by simp)]
        exact r6
      · rw [eo _ _ (by simp)]
        exact r7
      · rw [eo _ _ (by simp)]
        exact r8
  · rw [eA, eB, eA, eB, if_neg (show ¬ k = n by omega), if_neg (show ¬ k = n by omega)]
    by_cases c : k' = n
    · rw [if_pos c, if_pos c]
      exact q12 k (by omega)
    · rw [if_neg c, if_neg c]
      exact dd k k' hk (by omega)
  · have ep : sd_P h' S 1000 = sd_P h S 1000 := by
      funext c
      unfold sd_P
      rw [eo _ _ (by simp)]
    rw [ep]
    exact q5
theorem li_ix {h : mx_H} {a : mx_A} {x y : Int32} {L : Int} (e : x.toInt = y.toInt) (p : (h.2.1 a y.toNatClampNeg).toInt = L) : (h.2.1 a x.toNatClampNeg).toInt = L := by
  rw [Int32.toInt_inj.mp e]
  exact p
theorem li_sx {h : mx_H} {a : mx_A} {x y v : Int32} {L : Int} (e : x.toInt = y.toInt) (p : v.toInt = L) : ((mx_uI h a y.toNatClampNeg v).2.1 a x.toNatClampNeg).toInt = L := by
  rw [Int32.toInt_inj.mp e, sf_rs]
  exact p
theorem sd_coi {h : mx_H} {x s a : Int32} (hx : x.toInt = s.toInt) (hv : a.toInt < (h.2.1 (.inl 106) x.toNatClampNeg).toInt) : a.toInt < (h.2.1 (.inl 106) s.toNatClampNeg).toInt := by
  rw [← Int32.toInt_inj.mp hx]
  exact hv
theorem sd_ceq {h : mx_H} {x y : Int32} (e : x.toInt = y.toInt) : (h.2.1 (.inl 106) x.toNatClampNeg).toInt = (h.2.1 (.inl 106) y.toNatClampNeg).toInt := by
  rw [Int32.toInt_inj.mp e]
/-- what lies ahead of a shape stays -/
def sd_Fl (h0 h : mx_H) (s : Int32) : Prop := (∀ p, p < 36 * s.toNatClampNeg → h.2.1 (.inl 113) p = h0.2.1 (.inl 113) p) ∧ (∀ q, q < s.toNatClampNeg → h.2.1 (.inl 106) q = h0.2.1 (.inl 106) q)
theorem sd_Fl0 (h : mx_H) (s : Int32) : sd_Fl h h s := ⟨fun _ _ => rfl, fun _ _ => rfl⟩
theorem sd_Flu {h0 h : mx_H} {s : Int32} {a : mx_A} {i r : Nat} {v : Int32} (e : sf_rg a i = r) (hr : (r != 325 && r != 318) = true) (q : sd_Fl h0 h s) : sd_Fl h0 (mx_uI h a i v) s := by
  subst e
  simp only [Bool.and_eq_true, bne_iff_ne] at hr
  exact ⟨fun p hp => (if_neg (fun c => hr.1 (by rw [← c.1]; rfl))).trans (q.1 p hp), fun p hp => (if_neg (fun c => hr.2 (by rw [← c.1]; rfl))).trans (q.2 p hp)⟩
theorem sd_Flc {h0 h : mx_H} {s v : Int32} (q : sd_Fl h0 h s) : sd_Fl h0 (mx_uI h (.inl 106) s.toNatClampNeg v) s := ⟨fun p hp => (sf_ro (by decide +kernel)).trans (q.1 p hp), fun p hp => (sf_roi (by omega)).trans (q.2 p hp)⟩
theorem sd_Flb {h0 h : mx_H} {s x v : Int32} (h0' : 0 ≤ s.toInt) (hx : 36 * s.toInt ≤ x.toInt) (q : sd_Fl h0 h s) : sd_Fl h0 (mx_uI h (.inl 113) x.toNatClampNeg v) s := by
  have e1 := sf_cl h0'
  have e2 := sf_cl (x := x) (by omega)
  exact ⟨fun p hp => (sf_roi (by omega)).trans (q.1 p hp), fun p hp => (sf_ro (by decide +kernel)).trans (q.2 p hp)⟩
