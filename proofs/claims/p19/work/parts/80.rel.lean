/-! ===== the relation over one heap; what calls leave alone ===== -/
def rt_Ml : Nat := 577961651229498020925928990410226780971905695431867431405676572619336028297247402772107701451999055439724544
def rt_Ms : Nat := 230871130056998901634447500586778987139139097288067773080429506742223632553312891682813532754167263527546380091392
def rt_Mc : Nat := 2036179309202222059277112868808520882994142222070889681478192252799531652623569515727932434055418629478631237965242742302943903748
def rt_Mr : Nat := 2174126686437554872598746616358304969449041296403156896143154441128927007364442772585577323609219661824
theorem rt_bit {m M r : Nat} (hm : m &&& M = 0) (hr : M.testBit r = true) : m.testBit r = false := by
  have e := congrArg (fun x => Nat.testBit x r) hm
  simp only [Nat.testBit_and, hr, Bool.and_true, Nat.zero_testBit] at e
  exact e
/-- both sides, each read in its own heap -/
def rt_P (hc hr : mx_H) (S N : Nat) : Prop := rs_A hc hr S N ∧ (S ≤ 11 → rs_T hc hr) ∧ ∃ V D U, rh_H hc hr S V D U
/-- what the shelves hold: nothing, a body, a row -/
def rt_S (hc hr : mx_H) (N : Nat) : Prop := ∀ s, s < 6 → (hc.2.1 (.inl 95) s = -2 ∧ hr.2.1 (.inl 163) s = -1) ∨ (hc.2.1 (.inl 95) s = -1 ∧ ∃ b : Nat, b < N ∧ rD hc (.inl 97) s = b ∧ rD hr (.inl 163) s = b) ∨ ∃ t : Nat, t ≤ 4 ∧ rD hc (.inl 95) s = t ∧ rD hr (.inl 163) s = -2 - (t : Int) ∧ hc.2.1 (.inl 96) s = hr.2.1 (.inl 164) s
def rt_R (h : mx_H) : Prop := ∃ S N, rt_P h h S N ∧ rt_S h h N ∧ rt_L h h S
section RTA
variable {h h' hc hr hc' hr' h2 h4 : mx_H} {S N m m1 m2 : Nat}
theorem rt_ec (hm : m &&& rt_Mc = 0) (e : sf_E m h h') {s : Nat} : rs_ec s h h' := fun o i ho => by
  refine e.1 (.inr (s, o)) i (rt_bit hm ?_)
  rcases (show o = 0 ∨ o = 1 ∨ o = 2 ∨ o = 3 ∨ o = 4 ∨ o = 5 ∨ o = 6 ∨ o = 7 ∨ o = 8 by omega) with t | t | t | t | t | t | t | t | t
  · subst t
    show rt_Mc.testBit (379 + i) = true
    exact (by decide +kernel : ∀ i, i < 13 → rt_Mc.testBit (379 + i) = true) i (ho.2 rfl)
  · subst t
    exact (show rt_Mc.testBit 392 = true by decide +kernel)
  · subst t
    exact (show rt_Mc.testBit 393 = true by decide +kernel)
  · subst t
    exact (show rt_Mc.testBit 394 = true by decide +kernel)
  · subst t
    exact (show rt_Mc.testBit 395 = true by decide +kernel)
  · subst t
    exact (show rt_Mc.testBit 396 = true by decide +kernel)
  · subst t
    exact (show rt_Mc.testBit 397 = true by decide +kernel)
  · subst t
    exact (show rt_Mc.testBit 398 = true by decide +kernel)
  · subst t
    exact (show rt_Mc.testBit 399 = true by decide +kernel)
theorem rt_u (hm : m &&& rt_Mc = 0) (e : sf_E m h h') : rs_u S h h' := ⟨e.2.2 (rt_bit hm (by decide +kernel)), e.2.1 (.inl 0) 3 (rt_bit (r := 425) hm (by decide +kernel)), fun i => e.2.1 (.inl 3) i (rt_bit (r := 424) hm (by decide +kernel)), fun i => e.2.1 (.inl 92) i (rt_bit (r := 427) hm (by decide +kernel)), e.1 (.inl 0) 2 (rt_bit (r := 2) hm (by decide +kernel)), e.1 (.inl 90) 0 (rt_bit (r := 202) hm (by decide +kernel)), fun i => e.1 (.inl 91) i (rt_bit (r := 207) hm (by decide +kernel)), fun _ _ => rt_ec hm e⟩
theorem rt_v (hm : m &&& rt_Mr = 0) (e : sf_El m h h') : rs_v S h h' := ⟨e 105 1 (rt_bit (r := 225) hm (by decide +kernel)), e 105 12 (rt_bit (r := 236) hm (by decide +kernel)), fun i => e 116 i (rt_bit (r := 328) hm (by decide +kernel)), fun i => e 117 i (rt_bit (r := 329) hm (by decide +kernel)), fun s _ k i w => by
  have : k = 106 ∨ k = 107 ∨ k = 108 ∨ k = 109 ∨ k = 110 ∨ k = 111 ∨ k = 112 ∨ k = 113 ∨ k = 114 ∨ k = 115 := by
    unfold rs_w at w
    omega
  rcases this with t | t | t | t | t | t | t | t | t | t
  · subst t
    exact e 106 i (rt_bit (r := 318) hm (by decide +kernel))
  · subst t
    exact e 107 i (rt_bit (r := 319) hm (by decide +kernel))
  · subst t
    exact e 108 i (rt_bit (r := 320) hm (by decide +kernel))
  · subst t
    exact e 109 i (rt_bit (r := 321) hm (by decide +kernel))
  · subst t
    exact e 110 i (rt_bit (r := 322) hm (by decide +kernel))
  · subst t
    exact e 111 i (rt_bit (r := 323) hm (by decide +kernel))
  · subst t
    exact e 112 i (rt_bit (r := 324) hm (by decide +kernel))
  · subst t
    exact e 113 i (rt_bit (r := 325) hm (by decide +kernel))
  · subst t
    exact e 114 i (rt_bit (r := 326) hm (by decide +kernel))
  · subst t
    exact e 115 i (rt_bit (r := 327) hm (by decide +kernel))⟩
/-- the tapes -/
theorem rt_T (b1 : m1.testBit 15 = false) (b2 : m1.testBit 17 = false) (e1 : sf_El m1 hc hc') (b3 : m2.testBit 240 = false) (b4 : m2.testBit 330 = false) (e2 : sf_El m2 hr hr') (T : rs_T hc hr) : rs_T hc' hr' := by
  obtain ⟨L, l, t1, t2, t3⟩ := T
  refine ⟨L, l, ?_, ?_, fun i hi => ?_⟩
  · unfold rD
    rw [e1 1 1 b1]
    exact t1
  · unfold rD
    rw [e2 105 16 b3]
    exact t2
  · unfold rD
    rw [e1 2 i b2, e2 118 i b4]
    exact t3 i hi
theorem sf_El0 (m : Nat) (h : mx_H) : sf_El m h h := fun _ _ _ => rfl
theorem rt_hr (hm : m &&& rt_Mr = 0) (e : sf_El m h h') (q i : Nat) (l1 : 123 ≤ q) (l2 : q ≤ 127) : h'.2.1 (.inl q) i = h.2.1 (.inl q) i := by
  rcases (show q = 123 ∨ q = 124 ∨ q = 125 ∨ q = 126 ∨ q = 127 by omega) with t | t | t | t | t
  · subst t
    exact e 123 i (rt_bit (r := 335) hm (by decide +kernel))
  · subst t
    exact e 124 i (rt_bit (r := 336) hm (by decide +kernel))
  · subst t
    exact e 125 i (rt_bit (r := 337) hm (by decide +kernel))
  · subst t
    exact e 126 i (rt_bit (r := 338) hm (by decide +kernel))
  · subst t
    exact e 127 i (rt_bit (r := 339) hm (by decide +kernel))
theorem rt_hc (b0 : m.testBit 190 = false) (b1 : m.testBit 191 = false) (b6 : m.testBit 198 = false) (b7 : m.testBit 199 = false) (b8 : m.testBit 200 = false) (b9 : m.testBit 201 = false) (e : sf_El m h h') (q i : Nat) (l1 : 84 ≤ q) (l2 : q ≤ 89) (l3 : q = 84 → i = 0 ∨ i = 1) (l4 : q ≠ 85) : h'.2.1 (.inl q) i = h.2.1 (.inl q) i := by
  rcases (show q = 84 ∨ q = 86 ∨ q = 87 ∨ q = 88 ∨ q = 89 by omega) with t | t | t | t | t
  · subst t
    rcases l3 rfl with t | t
    · subst t
      exact e 84 0 b0
    · subst t
      exact e 84 1 b1
  · subst t
    exact e 86 i b6
  · subst t
    exact e 87 i b7
  · subst t
    exact e 88 i b8
  · subst t
    exact e 89 i b9
/-- the reference's heap may be another -/
theorem rt_P.r (hm : m &&& rt_Mr = 0) (e : sf_El m h h') (P : rt_P hc h S N) : rt_P hc h' S N := by
  obtain ⟨A, T, V, D, U, H⟩ := P
  exact ⟨A.g rs_u.refl (rt_v hm e), fun q => rt_T (m1 := 0) rfl rfl (sf_El0 0 hc) (rt_bit (r := 240) hm (by decide +kernel)) (rt_bit (r := 330) hm (by decide +kernel)) e (T q), (rh_H.new H (Nat.le_refl _) (fun _ _ _ _ _ => rfl) (fun _ => rfl) (fun _ _ _ _ _ _ => rfl) (fun q i l1 l2 => rt_hr hm e q i l1 l2) (e 105 24 (rt_bit (r := 248) hm (by decide +kernel))) (e 105 25 (rt_bit (r := 249) hm (by decide +kernel)))).imp (fun V' H' => ⟨D, U, H'⟩)⟩
/-- the class's heap may be another -/
theorem rt_P.c (hm : m &&& rt_Mc = 0) (e : sf_E m h h') (P : rt_P h hr S N) : rt_P h' hr S N := by
  obtain ⟨A, T, V, D, U, H⟩ := P
  refine ⟨A.g (rt_u hm e) rs_v.refl, fun q => rt_T (m2 := 0) (rt_bit (r := 15) hm (by decide +kernel)) (rt_bit (r := 17) hm (by decide +kernel)) e.l rfl rfl (sf_El0 0 hr) (T q), (rh_H.new H (Nat.le_refl _) (fun _ _ => rt_ec hm e) (fun i => e.2.1 (.inl 85) i (rt_bit (r := 426) hm (by decide +kernel))) (fun q i l1 l2 l3 l4 => ?_) (fun _ _ _ _ => rfl) rfl rfl).imp (fun V' H' => ⟨D, U, H'⟩)⟩
  exact rt_hc (rt_bit (r := 190) hm (by decide +kernel)) (rt_bit (r := 191) hm (by decide +kernel)) (rt_bit (r := 198) hm (by decide +kernel)) (rt_bit (r := 199) hm (by decide +kernel)) (rt_bit (r := 200) hm (by decide +kernel)) (rt_bit (r := 201) hm (by decide +kernel)) e.l q i l1 l2 l3 l4
theorem rt_Sf {N' : Nat} (c1 : m1 &&& rt_Ms = 0) (e1 : sf_El m1 hc hc') (c2 : m2 &&& rt_Ms = 0) (e2 : sf_El m2 hr hr') (NN : N ≤ N') (K : rt_S hc hr N) : rt_S hc' hr' N' := fun s hs => by
  unfold rD
  rw [e1 95 s (rt_bit (r := 214) c1 (by decide +kernel)), e1 96 s (rt_bit (r := 215) c1 (by decide +kernel)), e1 97 s (rt_bit (r := 216) c1 (by decide +kernel)), e2 163 s (rt_bit (r := 375) c2 (by decide +kernel)), e2 164 s (rt_bit (r := 376) c2 (by decide +kernel))]
  rcases K s hs with q | ⟨q1, b, q2, q3, q4⟩ | q
  · exact Or.inl q
  · exact Or.inr (Or.inl ⟨q1, b, by omega, q3, q4⟩)
  · exact Or.inr (Or.inr q)
theorem rt_Lf {S' : Nat} (c1 : m1 &&& rt_Ml = 0) (e1 : sf_El m1 hc hc') (c2 : m2 &&& rt_Ml = 0) (e2 : sf_El m2 hr hr') (SS : S ≤ S') (sc : rh_s S hc hc') (L : rt_L hc hr S) : rt_L hc' hr' S' := by
  obtain ⟨⟨P, L0⟩, W, LW⟩ := L
  refine ⟨⟨P, L0.fx SS (fun q i l1 l2 l3 => ?_) (fun q i l1 l2 => ?_) (e2 105 51 (rt_bit (r := 275) c2 (by decide +kernel))) (e2 105 52 (rt_bit (r := 276) c2 (by decide +kernel))) sc⟩, W, LW.fx (e1 60 5 (rt_bit (r := 141) c1 (by decide +kernel))) (fun q i l1 l2 => ?_) (fun q i l1 l2 => ?_) (e2 105 56 (rt_bit (r := 280) c2 (by decide +kernel)))⟩
  · rcases (show q = 60 ∨ q = 61 ∨ q = 62 ∨ q = 63 by omega) with t | t | t | t
    · subst t
      rcases l3 rfl with t | t
      · subst t
        exact e1 60 0 (rt_bit (r := 136) c1 (by decide +kernel))
      · subst t
        exact e1 60 1 (rt_bit (r := 137) c1 (by decide +kernel))
    · subst t
      exact e1 61 i (rt_bit (r := 149) c1 (by decide +kernel))
    · subst t
      exact e1 62 i (rt_bit (r := 150) c1 (by decide +kernel))
    · subst t
      exact e1 63 i (rt_bit (r := 151) c1 (by decide +kernel))
  · rcases (show q = 140 ∨ q = 141 ∨ q = 142 by omega) with t | t | t
    · subst t
      exact e2 140 i (rt_bit (r := 352) c2 (by decide +kernel))
    · subst t
      exact e2 141 i (rt_bit (r := 353) c2 (by decide +kernel))
    · subst t
      exact e2 142 i (rt_bit (r := 354) c2 (by decide +kernel))
  · rcases (show q = 64 ∨ q = 65 ∨ q = 66 by omega) with t | t | t
    · subst t
      exact e1 64 i (rt_bit (r := 152) c1 (by decide +kernel))
    · subst t
      exact e1 65 i (rt_bit (r := 153) c1 (by decide +kernel))
    · subst t
      exact e1 66 i (rt_bit (r := 154) c1 (by decide +kernel))
  · rcases (show q = 143 ∨ q = 144 ∨ q = 145 by omega) with t | t | t
    · subst t
      exact e2 143 i (rt_bit (r := 355) c2 (by decide +kernel))
    · subst t
      exact e2 144 i (rt_bit (r := 356) c2 (by decide +kernel))
    · subst t
      exact e2 145 i (rt_bit (r := 357) c2 (by decide +kernel))
theorem rt_Lr (c2 : m2 &&& (2 ^ 275 + 2 ^ 276 + 2 ^ 280 + 2 ^ 352 + 2 ^ 353 + 2 ^ 354 + 2 ^ 355 + 2 ^ 356 + 2 ^ 357) = 0) (e2 : sf_El m2 hr hr') (L : rt_L hc hr S) : rt_L hc hr' S := by
  obtain ⟨⟨P, L0⟩, W, LW⟩ := L
  refine ⟨⟨P, L0.fx (Nat.le_refl _) (fun _ _ _ _ _ => rfl) (fun q i l1 l2 => ?_) (e2 105 51 (rt_bit (r := 275) c2 (by decide +kernel))) (e2 105 52 (rt_bit (r := 276) c2 (by decide +kernel))) (fun _ _ => ⟨rfl, fun _ => ⟨rfl, rfl⟩⟩)⟩, W, LW.fx rfl (fun _ _ _ _ => rfl) (fun q i l1 l2 => ?_) (e2 105 56 (rt_bit (r := 280) c2 (by decide +kernel)))⟩
  · rcases (show q = 140 ∨ q = 141 ∨ q = 142 by omega) with t | t | t
    · subst t
      exact e2 140 i (rt_bit (r := 352) c2 (by decide +kernel))
    · subst t
      exact e2 141 i (rt_bit (r := 353) c2 (by decide +kernel))
    · subst t
      exact e2 142 i (rt_bit (r := 354) c2 (by decide +kernel))
  · rcases (show q = 143 ∨ q = 144 ∨ q = 145 by omega) with t | t | t
    · subst t
      exact e2 143 i (rt_bit (r := 355) c2 (by decide +kernel))
    · subst t
      exact e2 144 i (rt_bit (r := 356) c2 (by decide +kernel))
    · subst t
      exact e2 145 i (rt_bit (r := 357) c2 (by decide +kernel))
theorem rt_Lc (c1 : m1 &&& (2 ^ 136 + 2 ^ 137 + 2 ^ 141 + 2 ^ 149 + 2 ^ 150 + 2 ^ 151 + 2 ^ 152 + 2 ^ 153 + 2 ^ 154) = 0) (e1 : sf_El m1 hc hc') (sc : rh_s S hc hc') (L : rt_L hc hr S) : rt_L hc' hr S := by
  obtain ⟨⟨P, L0⟩, W, LW⟩ := L
  refine ⟨⟨P, L0.fx (Nat.le_refl _) (fun q i l1 l2 l3 => ?_) (fun _ _ _ _ => rfl) rfl rfl sc⟩, W, LW.fx (e1 60 5 (rt_bit (r := 141) c1 (by decide +kernel))) (fun q i l1 l2 => ?_) (fun _ _ _ _ => rfl) rfl⟩
  · rcases (show q = 60 ∨ q = 61 ∨ q = 62 ∨ q = 63 by omega) with t | t | t | t
    · subst t
      rcases l3 rfl with t | t
      · subst t
        exact e1 60 0 (rt_bit (r := 136) c1 (by decide +kernel))
      · subst t
        exact e1 60 1 (rt_bit (r := 137) c1 (by decide +kernel))
    · subst t
      exact e1 61 i (rt_bit (r := 149) c1 (by decide +kernel))
    · subst t
      exact e1 62 i (rt_bit (r := 150) c1 (by decide +kernel))
    · subst t
      exact e1 63 i (rt_bit (r := 151) c1 (by decide +kernel))
  · rcases (show q = 64 ∨ q = 65 ∨ q = 66 by omega) with t | t | t
    · subst t
      exact e1 64 i (rt_bit (r := 152) c1 (by decide +kernel))
    · subst t
      exact e1 65 i (rt_bit (r := 153) c1 (by decide +kernel))
    · subst t
      exact e1 66 i (rt_bit (r := 154) c1 (by decide +kernel))
theorem rs_ec_s (e : ∀ s, s < S → rs_ec s h h') : rh_s S h h' := fun s hs => ⟨e s hs 0 6 (by omega), fun k => ⟨e s hs 5 k (by omega), e s hs 6 k (by omega)⟩⟩
/-- a call that touches nothing of it -/
theorem rt_f (hm : m &&& rt_Mc = 0) (hn : m &&& rt_Mr = 0) (hs : m &&& rt_Ms = 0) (hl : m &&& rt_Ml = 0) (e : sf_E m h h') (R : rt_R h) : rt_R h' := by
  obtain ⟨S, N, P, K, L⟩ := R
  exact ⟨S, N, (P.c hm e).r hn e.l, rt_Sf hs e.l hs e.l (Nat.le_refl _) K, rt_Lf hl e.l hl e.l (Nat.le_refl _) (rs_ec_s (fun _ _ => rt_ec hm e)) L⟩
/-- the relation goes through a call on both sides -/
theorem rt_go (R : rt_R h) (b1 : m1 &&& rt_Mr = 0) (e1 : sf_El m1 h h2) (b2 : m2 &&& rt_Mc = 0) (e2 : sf_E m2 h2 h4) (c1 : m1 &&& rt_Ms = 0) (c2 : m2 &&& rt_Ms = 0) (d1 : m1 &&& rt_Ml = 0) (d2 : m2 &&& rt_Ml = 0) (st : ∀ S N, rt_P h h2 S N → ∃ S' N', (S ≤ S' ∧ N ≤ N' ∧ rh_s S h h2) ∧ rt_P h2 h4 S' N') : rt_R h4 := by
  obtain ⟨S, N, P, K, L⟩ := R
  obtain ⟨S', N', ⟨SS, NN, sc⟩, P'⟩ := st S N (P.r b1 e1)
  exact ⟨S', N', P'.c b2 e2, rt_Sf c2 e2.l c2 e2.l NN (rt_Sf c1 e1 c1 e1 (Nat.le_refl _) K), rt_Lf d2 e2.l d2 e2.l (Nat.le_refl _) (rs_ec_s (fun _ _ => rt_ec b2 e2)) (rt_Lf d1 e1 d1 e1 SS sc L)⟩
/-- the shelves go through a call on both sides -/
theorem rt_goS (R : rt_R h) (b1 : m1 &&& rt_Mc = 0) (b2 : m1 &&& rt_Mr = 0) (e1 : sf_E m1 h h2) (b3 : m2 &&& rt_Mc = 0) (b4 : m2 &&& rt_Mr = 0) (e2 : sf_E m2 h2 h4) (c1 : m1 &&& (2 ^ 375 + 2 ^ 376) = 0) (c2 : m2 &&& (2 ^ 214 + 2 ^ 215 + 2 ^ 216) = 0) (d1 : m1 &&& rt_Ml = 0) (d2 : m2 &&& rt_Ml = 0) (st : ∀ S N, rs_A h h2 S N → rt_S h h2 N → rt_S h2 h4 N) : rt_R h4 := by
  obtain ⟨S, N, P, K, L⟩ := R
  have K1 : rt_S h h2 N := fun s hs => by
    unfold rD
    rw [e1.l 163 s (rt_bit (r := 375) c1 (by decide +kernel)), e1.l 164 s (rt_bit (r := 376) c1 (by decide +kernel))]
    exact K s hs
  have K2 := st S N (P.r b2 e1.l).1 K1
  refine ⟨S, N, (((P.c b1 e1).r b2 e1.l).c b3 e2).r b4 e2.l, fun s hs => ?_, rt_Lf d2 e2.l d2 e2.l (Nat.le_refl _) (rs_ec_s (fun _ _ => rt_ec b3 e2)) (rt_Lf d1 e1.l d1 e1.l (Nat.le_refl _) (rs_ec_s (fun _ _ => rt_ec b1 e1)) L)⟩
  unfold rD
  rw [e2.l 95 s (rt_bit (r := 214) c2 (by decide +kernel)), e2.l 96 s (rt_bit (r := 215) c2 (by decide +kernel)), e2.l 97 s (rt_bit (r := 216) c2 (by decide +kernel))]
  exact K2 s hs
/-- the lists go through a call on both sides -/
theorem rt_goL (R : rt_R h) (b1 : m1 &&& rt_Mc = 0) (b2 : m1 &&& rt_Mr = 0) (e1 : sf_E m1 h h2) (b3 : m2 &&& rt_Mc = 0) (b4 : m2 &&& rt_Mr = 0) (e2 : sf_E m2 h2 h4) (c1 : m1 &&& rt_Ms = 0) (c2 : m2 &&& rt_Ms = 0) (d1 : m1 &&& (2 ^ 275 + 2 ^ 276 + 2 ^ 280 + 2 ^ 352 + 2 ^ 353 + 2 ^ 354 + 2 ^ 355 + 2 ^ 356 + 2 ^ 357) = 0) (d2 : m2 &&& (2 ^ 136 + 2 ^ 137 + 2 ^ 141 + 2 ^ 149 + 2 ^ 150 + 2 ^ 151 + 2 ^ 152 + 2 ^ 153 + 2 ^ 154) = 0) (st : ∀ S N, rs_A h h2 S N → rt_L h h2 S → rt_L h2 h4 S) : rt_R h4 := by
  obtain ⟨S, N, P, K, L⟩ := R
  have z0 : (0 : Nat) &&& rt_Ml = 0 := by decide +kernel
  have L1 : rt_L h h2 S := rt_Lr d1 e1.l L
  have L2 := st S N (P.r b2 e1.l).1 L1
  exact ⟨S, N, (((P.c b1 e1).r b2 e1.l).c b3 e2).r b4 e2.l, rt_Sf c2 e2.l c2 e2.l (Nat.le_refl _) (rt_Sf c1 e1.l c1 e1.l (Nat.le_refl _) K), rt_Lc d2 e2.l (rs_ec_s (fun _ _ => rt_ec b3 e2)) L2⟩
end RTA
/-! ===== the calls that touch it ===== -/
section RTB
variable {h hc hr h2 h4 : mx_H} {S N m1 m2 : Nat} {a1 a2 a3 a4 : Int32}
/-- what the bounds say of the reference's heap -/
theorem sf_b (hI : sf_I h) (a : mx_A) (i : Nat) : (sf_bd a i).1 ≤ (h.2.1 a i).toInt ∧ (h.2.1 a i).toInt ≤ (sf_bd a i).2 := hI.1 a i
theorem sf_110 (hI : sf_I h) (i : Nat) : h.2.1 (.inl 110) i = 0 ∨ h.2.1 (.inl 110) i = 1 := by
  obtain ⟨b1, b2⟩ := sf_rd (lo := 0) (hi := 1) (r := 322) hI (.inl 110) i rfl (by decide +kernel)
  rcases (show (h.2.1 (.inl 110) i).toInt = 0 ∨ (h.2.1 (.inl 110) i).toInt = 1 by omega) with t | t
  · exact Or.inl (i_eq t k_0 rfl)
  · exact Or.inr (i_eq t k_1 rfl)
theorem sf_113 (hI : sf_I h) (i : Nat) : 0 ≤ rD h (.inl 113) i := (sf_rd (lo := 0) (hi := 201) (r := 325) hI (.inl 113) i rfl (by decide +kernel)).1
theorem sf_9 (hI : sf_I h) : rb_9 h := fun i => ⟨sf_rd (lo := 0) (hi := 9) (r := 323) hI (.inl 111) i rfl (by decide +kernel), sf_rd (lo := 0) (hi := 9) (r := 324) hI (.inl 112) i rfl (by decide +kernel)⟩
theorem sf_jfe {a : mx_A} {i r : Nat} (e : sf_rg a i = r) (hr : sf_jr r = true) : sf_jf h a i = rD h a i := by
  unfold sf_jf
  rw [e, hr]
  rfl
theorem sf_k2 (hI : sf_I h) (e : rD h (.inl 105) 1 = S) : ∀ s c : Nat, s < S → (c : Int) < rD h (.inl 106) s → 1 ≤ rD h (.inl 107) (6 * s + c) := fun s c hs hc => by
  have k := hI.2.2.2.2.1 s c
  have e1 : sf_jf h (.inl 105) 1 = rD h (.inl 105) 1 := sf_jfe (r := 225) rfl (by decide +kernel)
  have e2 : sf_jf h (.inl 106) s = rD h (.inl 106) s := sf_jfe (r := 318) rfl (by decide +kernel)
  have e3 : sf_jf h (.inl 107) (6 * s + c) = rD h (.inl 107) (6 * s + c) := sf_jfe (r := 319) rfl (by decide +kernel)
  rw [e1, e2, e3] at k
  exact k (by omega) hc
theorem sf_k3 (hI : sf_I h) (e : rD h (.inl 105) 1 = S) : ∀ p : Nat, p < 36 * S → 0 < rD h (.inl 113) p → 1 ≤ rD h (.inl 111) p := fun p hp hq => by
  have k := hI.2.2.2.2.2.1 p
  have e1 : sf_jf h (.inl 105) 1 = rD h (.inl 105) 1 := sf_jfe (r := 225) rfl (by decide +kernel)
  have e2 : sf_jf h (.inl 113) p = rD h (.inl 113) p := sf_jfe (r := 325) rfl (by decide +kernel)
  have e3 : sf_jf h (.inl 111) p = rD h (.inl 111) p := sf_jfe (r := 323) rfl (by decide +kernel)
  rw [e1, e2, e3] at k
  exact k (by omega) hq
theorem st_feed (P : rt_P hc hr S N) (b1 : m1.testBit 190 = false ∧ m1.testBit 191 = false ∧ m1.testBit 198 = false ∧ m1.testBit 199 = false ∧ m1.testBit 200 = false ∧ m1.testBit 201 = false ∧ m1.testBit 426 = false) (e1 : sf_E m1 hc (f102 a1 a2 hc).2) (bc : m1 &&& (rt_Mc - 2 ^ 15 - 2 ^ 17) = 0) (e2 : sf_El m2 hr (f184 a1 a2 hr).2) (br : m2 &&& (rt_Mr - 2 ^ 240 - 2 ^ 330) = 0) : ∃ S' N', (S ≤ S' ∧ N ≤ N' ∧ rh_s S hc (f102 a1 a2 hc).2) ∧ rt_P (f102 a1 a2 hc).2 (f184 a1 a2 hr).2 S' N' := by
  obtain ⟨A, T, V, D, U, H⟩ := P
  obtain ⟨z1, z2⟩ := rs_feed (a1 := a1) (a2 := a2) A T
  obtain ⟨b0, b1, b6, b7, b8, b9, b5⟩ := b1
  have ec : ∀ s, s < S → rs_ec s hc (f102 a1 a2 hc).2 := fun s _ o i ho => by
    refine e1.1 (.inr (s, o)) i (rt_bit bc ?_)
    rcases (show o = 0 ∨ o = 1 ∨ o = 2 ∨ o = 3 ∨ o = 4 ∨ o = 5 ∨ o = 6 ∨ o = 7 ∨ o = 8 by omega) with t | t | t | t | t | t | t | t | t
    · subst t
      show (rt_Mc - 2 ^ 15 - 2 ^ 17).testBit (379 + i) = true
      exact (by decide +kernel : ∀ i, i < 13 → (rt_Mc - 2 ^ 15 - 2 ^ 17).testBit (379 + i) = true) i (ho.2 rfl)
    · subst t
      exact (show (rt_Mc - 2 ^ 15 - 2 ^ 17).testBit 392 = true by decide +kernel)
    · subst t
      exact (show (rt_Mc - 2 ^ 15 - 2 ^ 17).testBit 393 = true by decide +kernel)
    · subst t
      exact (show (rt_Mc - 2 ^ 15 - 2 ^ 17).testBit 394 = true by decide +kernel)
    · subst t
      exact (show (rt_Mc - 2 ^ 15 - 2 ^ 17).testBit 395 = true by decide +kernel)
    · subst t
      exact (show (rt_Mc - 2 ^ 15 - 2 ^ 17).testBit 396 = true by decide +kernel)
    · subst t
      exact (show (rt_Mc - 2 ^ 15 - 2 ^ 17).testBit 397 = true by decide +kernel)
    · subst t
      exact (show (rt_Mc - 2 ^ 15 - 2 ^ 17).testBit 398 = true by decide +kernel)
    · subst t
      exact (show (rt_Mc - 2 ^ 15 - 2 ^ 17).testBit 399 = true by decide +kernel)
  refine ⟨S, N, ⟨Nat.le_refl _, Nat.le_refl _, rs_ec_s ec⟩, z1, fun q => (z2 q).1, (rh_H.new H (Nat.le_refl _) ec (fun i => e1.2.1 (.inl 85) i b5) (fun q i l1 l2 l3 l4 => rt_hc b0 b1 b6 b7 b8 b9 e1.l q i l1 l2 l3 l4) (fun q i l1 l2 => ?_) (e2 105 24 (rt_bit (r := 248) br (by decide +kernel))) (e2 105 25 (rt_bit (r := 249) br (by decide +kernel)))).imp (fun V' H' => ⟨D, U, H'⟩)⟩
  rcases (show q = 123 ∨ q = 124 ∨ q = 125 ∨ q = 126 ∨ q = 127 by omega) with t | t | t | t | t
  · subst t
    exact e2 123 i (rt_bit (r := 335) br (by decide +kernel))
  · subst t
    exact e2 124 i (rt_bit (r := 336) br (by decide +kernel))
  · subst t
    exact e2 125 i (rt_bit (r := 337) br (by decide +kernel))
  · subst t
    exact e2 126 i (rt_bit (r := 338) br (by decide +kernel))
  · subst t
    exact e2 127 i (rt_bit (r := 339) br (by decide +kernel))
/-- what a call must leave alone of the histories where shapes or bodies come -/
def rt_hk (m1 m2 : Nat) : Bool := !m1.testBit 190 && (!m1.testBit 191 && (!m1.testBit 198 && (!m1.testBit 199 && (!m1.testBit 200 && (!m1.testBit 201 && (!m2.testBit 248 && (!m2.testBit 249 && (!m2.testBit 335 && (!m2.testBit 336 && (!m2.testBit 337 && (!m2.testBit 338 && !m2.testBit 339)))))))))))
theorem rt_hn {S' D U : Nat} {V : Nat → Nat → Nat → Int} {hc' hr' : mx_H} (k : rt_hk m1 m2 = true) (e1 : sf_El m1 hc hc') (e2 : sf_El m2 hr hr') (ec : ∀ s, s < S → rs_ec s hc hc') (p85 : ∀ i, hc'.2.2.2 (.inl 85) i = hc.2.2.2 (.inl 85) i) (SS : S ≤ S') (H : rh_H hc hr S V D U) : ∃ V' D' U', rh_H hc' hr' S' V' D' U' := by
  unfold rt_hk at k
  simp only [Bool.and_eq_true, Bool.not_eq_true'] at k
  obtain ⟨k1, k2, k3, k4, k5, k6, k7, k8, k9, k10, k11, k12, k13⟩ := k
  refine (rh_H.new H SS ec p85 (fun q i l1 l2 l3 l4 => rt_hc k1 k2 k3 k4 k5 k6 e1 q i l1 l2 l3 l4) (fun q i l1 l2 => ?_) (e2 105 24 k7) (e2 105 25 k8)).imp (fun V' H' => ⟨D, U, H'⟩)
  rcases (show q = 123 ∨ q = 124 ∨ q = 125 ∨ q = 126 ∨ q = 127 by omega) with t | t | t | t | t
  · subst t
    exact e2 123 i k9
  · subst t
    exact e2 124 i k10
  · subst t
    exact e2 125 i k11
  · subst t
    exact e2 126 i k12
  · subst t
    exact e2 127 i k13
theorem st_shape (I : sf_I hc) (I2 : sf_I (f103 hc).2) (P : rt_P hc hr S N) (k : rt_hk m1 m2 = true) (e1 : sf_El m1 hc (f103 hc).2) (e2 : sf_El m2 hr (f194 hr).2) : ∃ S' N', (S ≤ S' ∧ N ≤ N' ∧ rh_s S hc (f103 hc).2) ∧ rt_P (f103 hc).2 (f194 hr).2 S' N' := by
  obtain ⟨A, T, V, D, U, H⟩ := P
  obtain ⟨S', N', z1, z2, z3, z4, z5⟩ := rs_shape A T (sf_rd (lo := 0) (hi := 120) (r := 15) I (.inl 1) 1 rfl (by decide +kernel)) (fun i => sf_rd (lo := 0) (hi := 255) (r := 17) I (.inl 2) i rfl (by decide +kernel)) (fun k => (sf_rd (lo := 0) (hi := 9) (r := 398) I2 (.inr (S, 7)) k rfl (by decide +kernel)).1)
  exact ⟨S', N', ⟨z1.1, z1.2, rs_ec_s z4⟩, z2, z3, rt_hn k e1 e2 z4 z5 z1.1 H⟩
theorem st_join (I : sf_I hr) (P : rt_P hc hr S N) (k : rt_hk m1 m2 = true) (b1 : m1.testBit 15 = false) (b2 : m1.testBit 17 = false) (b3 : m2.testBit 240 = false) (b4 : m2.testBit 330 = false) (e1 : sf_El m1 hc (f142 a1 a2 a3 a4 hc).2) (e2 : sf_El m2 hr (f280 a1 a2 a3 a4 hr).2) : (f142 a1 a2 a3 a4 hc).1 = (f280 a1 a2 a3 a4 hr).1 ∧ ∃ S' N', (S ≤ S' ∧ N ≤ N' ∧ rh_s S hc (f142 a1 a2 a3 a4 hc).2) ∧ rt_P (f142 a1 a2 a3 a4 hc).2 (f280 a1 a2 a3 a4 hr).2 S' N' := by
  obtain ⟨A, T, V, D, U, H⟩ := P
  obtain ⟨z0, S', N', z1, z2, z4, z5⟩ := rs_join (a1 := a1) (a2 := a2) (a3 := a3) (a4 := a4) A (sf_113 I) (sf_110 I)
  exact ⟨z0, S', N', ⟨z1.1, z1.2, rs_ec_s z4⟩, z2, fun q => rt_T b1 b2 e1 b3 b4 e2 (T (by omega)), rt_hn k e1 e2 z4 z5 z1.1 H⟩
theorem st_body (P : rt_P hc hr S N) (k : rt_hk m1 m2 = true) (b1 : m1.testBit 15 = false) (b2 : m1.testBit 17 = false) (b3 : m2.testBit 240 = false) (b4 : m2.testBit 330 = false) (b5 : m1.testBit 426 = false) (bc : m1 &&& (rt_Mc - 2 ^ 202 - 2 ^ 207 - 2 ^ 427) = 0) (e1 : sf_E m1 hc (f147 a1 hc).2) (e2 : sf_El m2 hr (f285 a1 hr).2) : (f147 a1 hc).1 = (f285 a1 hr).1 ∧ ∃ S' N', (S ≤ S' ∧ N ≤ N' ∧ rh_s S hc (f147 a1 hc).2) ∧ rt_P (f147 a1 hc).2 (f285 a1 hr).2 S' N' := by
  obtain ⟨A, T, V, D, U, H⟩ := P
  obtain ⟨z0, N', zn, z2⟩ := rs_body (a := a1) A
  refine (show (∀ s, s < S → rs_ec s hc (f147 a1 hc).2) → _ from fun ec => ⟨z0, S, N', ⟨Nat.le_refl _, zn, rs_ec_s ec⟩, z2, fun q => rt_T b1 b2 e1.l b3 b4 e2 (T q), rt_hn k e1.l e2 ec (fun i => e1.2.1 (.inl 85) i b5) (Nat.le_refl _) H⟩) (fun s _ o i ho => ?_)
  refine e1.1 (.inr (s, o)) i (rt_bit bc ?_)
  rcases (show o = 0 ∨ o = 1 ∨ o = 2 ∨ o = 3 ∨ o = 4 ∨ o = 5 ∨ o = 6 ∨ o = 7 ∨ o = 8 by omega) with t | t | t | t | t | t | t | t | t
  · subst t
    show (rt_Mc - 2 ^ 202 - 2 ^ 207 - 2 ^ 427).testBit (379 + i) = true
    exact (by decide +kernel : ∀ i, i < 13 → (rt_Mc - 2 ^ 202 - 2 ^ 207 - 2 ^ 427).testBit (379 + i) = true) i (ho.2 rfl)
  · subst t
    exact (show (rt_Mc - 2 ^ 202 - 2 ^ 207 - 2 ^ 427).testBit 392 = true by decide +kernel)
  · subst t
    exact (show (rt_Mc - 2 ^ 202 - 2 ^ 207 - 2 ^ 427).testBit 393 = true by decide +kernel)
  · subst t
    exact (show (rt_Mc - 2 ^ 202 - 2 ^ 207 - 2 ^ 427).testBit 394 = true by decide +kernel)
  · subst t
    exact (show (rt_Mc - 2 ^ 202 - 2 ^ 207 - 2 ^ 427).testBit 395 = true by decide +kernel)
  · subst t
    exact (show (rt_Mc - 2 ^ 202 - 2 ^ 207 - 2 ^ 427).testBit 396 = true by decide +kernel)
  · subst t
    exact (show (rt_Mc - 2 ^ 202 - 2 ^ 207 - 2 ^ 427).testBit 397 = true by decide +kernel)
  · subst t
    exact (show (rt_Mc - 2 ^ 202 - 2 ^ 207 - 2 ^ 427).testBit 398 = true by decide +kernel)
  · subst t
    exact (show (rt_Mc - 2 ^ 202 - 2 ^ 207 - 2 ^ 427).testBit 399 = true by decide +kernel)
theorem st_put (I : sf_I hr) (P : rt_P hc hr S N) (b1 : m1.testBit 15 = false) (b2 : m1.testBit 17 = false) (b3 : m2.testBit 240 = false) (b4 : m2.testBit 330 = false) (b5 : m1.testBit 385 = false) (b6 : m1.testBit 396 = false) (b7 : m1.testBit 397 = false) (e1 : sf_E m1 hc (f106 a1 a2 a3 a4 hc).2) (e2 : sf_El m2 hr (f201 a1 a2 a3 a4 hr).2) : (f106 a1 a2 a3 a4 hc).1 = (f201 a1 a2 a3 a4 hr).1 ∧ ∃ S' N', (S ≤ S' ∧ N ≤ N' ∧ rh_s S hc (f106 a1 a2 a3 a4 hc).2) ∧ rt_P (f106 a1 a2 a3 a4 hc).2 (f201 a1 a2 a3 a4 hr).2 S' N' := by
  obtain ⟨A, T, V, D, U, H⟩ := P
  obtain ⟨z0, z1, z2⟩ := rs_put (a1 := a1) (a2 := a2) (a3 := a3) (a4 := a4) A H (sf_110 I)
  exact ⟨z0, S, N, ⟨Nat.le_refl _, Nat.le_refl _, fun s _ => ⟨e1.1 (.inr (s, 0)) 6 b5, fun k => ⟨e1.1 (.inr (s, 5)) k b6, e1.1 (.inr (s, 6)) k b7⟩⟩⟩, z1, fun q => rt_T b1 b2 e1.l b3 b4 e2 (T q), z2⟩
theorem st_crack (I : sf_I hr) (P : rt_P hc hr S N) (b1 : m1.testBit 15 = false) (b2 : m1.testBit 17 = false) (b3 : m2.testBit 240 = false) (b4 : m2.testBit 330 = false) (b5 : m1.testBit 385 = false) (b6 : m1.testBit 396 = false) (b7 : m1.testBit 397 = false) (e1 : sf_E m1 hc (f107 a1 a2 a3 a4 hc).2) (e2 : sf_El m2 hr (f202 a1 a2 a3 a4 hr).2) : (f107 a1 a2 a3 a4 hc).1 = (f202 a1 a2 a3 a4 hr).1 ∧ ∃ S' N', (S ≤ S' ∧ N ≤ N' ∧ rh_s S hc (f107 a1 a2 a3 a4 hc).2) ∧ rt_P (f107 a1 a2 a3 a4 hc).2 (f202 a1 a2 a3 a4 hr).2 S' N' := by
  obtain ⟨A, T, V, D, U, H⟩ := P
  obtain ⟨z0, z1, z2⟩ := rs_crack (a1 := a1) (a2 := a2) (a3 := a3) (a4 := a4) A H (sf_9 I)
  exact ⟨z0, S, N, ⟨Nat.le_refl _, Nat.le_refl _, fun s _ => ⟨e1.1 (.inr (s, 0)) 6 b5, fun k => ⟨e1.1 (.inr (s, 5)) k b6, e1.1 (.inr (s, 6)) k b7⟩⟩⟩, z1, fun q => rt_T b1 b2 e1.l b3 b4 e2 (T q), z2⟩
theorem st_stroke (I : sf_I hr) (P : rt_P hc hr S N) (b1 : m1.testBit 15 = false) (b2 : m1.testBit 17 = false) (b3 : m2.testBit 240 = false) (b4 : m2.testBit 330 = false) (b5 : m1.testBit 385 = false) (b6 : m1.testBit 396 = false) (b7 : m1.testBit 397 = false) (e1 : sf_E m1 hc (f108 a1 a2 a3 hc).2) (e2 : sf_El m2 hr (f203 a1 a2 a3 hr).2) : (f108 a1 a2 a3 hc).1 = (f203 a1 a2 a3 hr).1 ∧ ∃ S' N', (S ≤ S' ∧ N ≤ N' ∧ rh_s S hc (f108 a1 a2 a3 hc).2) ∧ rt_P (f108 a1 a2 a3 hc).2 (f203 a1 a2 a3 hr).2 S' N' := by
  obtain ⟨A, T, V, D, U, H⟩ := P
  obtain ⟨z0, z1, z2⟩ := rs_stroke (a1 := a1) (a2 := a2) (a3 := a3) A H (sf_9 I) (sf_k2 I A.2.2.2.1) (sf_k3 I A.2.2.2.1)
  exact ⟨z0, S, N, ⟨Nat.le_refl _, Nat.le_refl _, fun s _ => ⟨e1.1 (.inr (s, 0)) 6 b5, fun k => ⟨e1.1 (.inr (s, 5)) k b6, e1.1 (.inr (s, 6)) k b7⟩⟩⟩, z1, fun q => rt_T b1 b2 e1.l b3 b4 e2 (T q), z2⟩
theorem st_undo (P : rt_P hc hr S N) (b1 : m1.testBit 15 = false) (b2 : m1.testBit 17 = false) (b3 : m2.testBit 240 = false) (b4 : m2.testBit 330 = false) (b5 : m1.testBit 385 = false) (b6 : m1.testBit 396 = false) (b7 : m1.testBit 397 = false) (e1 : sf_E m1 hc (f144 hc).2) (e2 : sf_El m2 hr (f204 hr).2) : (f144 hc).1 = (f204 hr).1 ∧ ∃ S' N', (S ≤ S' ∧ N ≤ N' ∧ rh_s S hc (f144 hc).2) ∧ rt_P (f144 hc).2 (f204 hr).2 S' N' := by
  obtain ⟨A, T, V, D, U, H⟩ := P
  obtain ⟨z0, z1, z2⟩ := rs_undo A H
  exact ⟨z0, S, N, ⟨Nat.le_refl _, Nat.le_refl _, fun s _ => ⟨e1.1 (.inr (s, 0)) 6 b5, fun k => ⟨e1.1 (.inr (s, 5)) k b6, e1.1 (.inr (s, 6)) k b7⟩⟩⟩, z1, fun q => rt_T b1 b2 e1.l b3 b4 e2 (T q), z2⟩
theorem st_redo (P : rt_P hc hr S N) (b1 : m1.testBit 15 = false) (b2 : m1.testBit 17 = false) (b3 : m2.testBit 240 = false) (b4 : m2.testBit 330 = false) (b5 : m1.testBit 385 = false) (b6 : m1.testBit 396 = false) (b7 : m1.testBit 397 = false) (e1 : sf_E m1 hc (f145 hc).2) (e2 : sf_El m2 hr (f205 hr).2) : (f145 hc).1 = (f205 hr).1 ∧ ∃ S' N', (S ≤ S' ∧ N ≤ N' ∧ rh_s S hc (f145 hc).2) ∧ rt_P (f145 hc).2 (f205 hr).2 S' N' := by
  obtain ⟨A, T, V, D, U, H⟩ := P
  obtain ⟨z0, z1, z2⟩ := rs_redo A H
  exact ⟨z0, S, N, ⟨Nat.le_refl _, Nat.le_refl _, fun s _ => ⟨e1.1 (.inr (s, 0)) 6 b5, fun k => ⟨e1.1 (.inr (s, 5)) k b6, e1.1 (.inr (s, 6)) k b7⟩⟩⟩, z1, fun q => rt_T b1 b2 e1.l b3 b4 e2 (T q), z2⟩
end RTB
set_option maxRecDepth 1000000 in
theorem rt_00 : sp_hN.2.1 (.inl 0) 2 = 0 ∧ sp_hN.2.1 (.inl 105) 1 = 0 ∧ sp_hN.2.1 (.inl 90) 0 = 0 ∧ sp_hN.2.1 (.inl 105) 12 = 0 ∧ sp_hN.1 = 167 ∧ sp_hN.2.2.2 (.inl 0) 3 = some (.inr (0, 0)) ∧ sp_hN.2.1 (.inl 1) 1 = 0 ∧ sp_hN.2.1 (.inl 105) 16 = 0 ∧ sp_hN.2.1 (.inl 84) 0 = 0 ∧ sp_hN.2.1 (.inl 84) 1 = 0 ∧ sp_hN.2.1 (.inl 105) 24 = 0 ∧ sp_hN.2.1 (.inl 105) 25 = 0 ∧ sp_hN.2.1 (.inl 60) 1 = 0 ∧ sp_hN.2.1 (.inl 60) 5 = 0 ∧ sp_hN.2.1 (.inl 105) 51 = 0 ∧ sp_hN.2.1 (.inl 105) 56 = 0 ∧ ∀ s, s < 6 → sp_hN.2.1 (.inl 95) s = -2 ∧ sp_hN.2.1 (.inl 163) s = -1 := by decide +kernel
theorem rt_0 : rt_R sp_hN := by
  obtain ⟨n1, n2, n3, n4, n5, n6, n7, n8, n9, n10, n11, n12, m1, m2, m3, m4, n13⟩ := rt_00
  refine ⟨0, 0, ⟨⟨by decide +kernel, by decide +kernel, ?_, ?_, ?_, ?_, n5, n6, fun s hs => absurd hs (Nat.not_lt_zero _), fun b hb => absurd hb (Nat.not_lt_zero _)⟩, fun _ => ⟨0, by decide +kernel, ?_, ?_, fun i hi => absurd hi (Nat.not_lt_zero _)⟩, fun _ _ _ => 0, 0, 0, ?_, ?_, ?_, ?_, by decide +kernel, fun s k hs => absurd hs (Nat.not_lt_zero _), fun j hj => absurd hj (Nat.not_lt_zero _)⟩, fun s hs => Or.inl (n13 s hs), ⟨0, by decide +kernel, by unfold rD; rw [m1]; rfl, by unfold rD; rw [m3]; rfl, fun z => absurd z (Nat.lt_irrefl 0)⟩, 0, by decide +kernel, by unfold rD; rw [m2]; rfl, by unfold rD; rw [m4]; rfl, fun j hj => absurd hj (Nat.not_lt_zero _)⟩
  · unfold rD
    rw [n1]
    rfl
  · unfold rD
    rw [n2]
    rfl
  · unfold rD
    rw [n3]
    rfl
  · unfold rD
    rw [n4]
    rfl
  · unfold rD
    rw [n7]
    rfl
  · unfold rD
    rw [n8]
    rfl
  · unfold rD
    rw [n9]
    rfl
  · unfold rD
    rw [n10]
    rfl
  · unfold rD
    rw [n11]
    rfl
  · unfold rD
    rw [n12]
    rfl
/-! ===== further blows told: how many, on both sides ===== -/
def rt_b (hc hr : mx_H) : Prop := hc.2.1 (.inl 71) 7 = hr.2.1 (.inl 105) 79
def rt_B (h : mx_H) : Prop := rt_b h h
section RTC
variable {h h' hc hr h2 h4 : mx_H} {S N m m1 m2 : Nat} {a1 a2 a3 a4 : Int32}
theorem rt_Bf (b1 : m.testBit 171 = false) (b2 : m.testBit 303 = false) (e : sf_El m h h') (B : rt_B h) : rt_B h' := by
  show h'.2.1 (.inl 71) 7 = h'.2.1 (.inl 105) 79
  rw [e 71 7 b1, e 105 79 b2]
  exact B
theorem rt_Br (b2 : m.testBit 303 = false) (e : sf_El m h h') (B : rt_b hc h) : rt_b hc h' := by
  show hc.2.1 (.inl 71) 7 = h'.2.1 (.inl 105) 79
  rw [e 105 79 b2]
  exact B
theorem rt_Bc (b1 : m.testBit 171 = false) (e : sf_El m h h') (B : rt_b h hr) : rt_b h' hr := by
  show h'.2.1 (.inl 71) 7 = hr.2.1 (.inl 105) 79
  rw [e 71 7 b1]
  exact B
theorem st_roll (I : sf_I hc) (B : rt_b hc hr) : (f132 a1 a2 a3 hc).1 = (f260 a1 a2 a3 hr).1 ∧ rt_b (f132 a1 a2 a3 hc).2 (f260 a1 a2 a3 hr).2 := by
  obtain ⟨b1, b2⟩ := sf_rd (lo := 0) (hi := 6) (r := 171) I (.inl 71) 7 rfl (by decide +kernel)
  have B' : hc.2.1 (.inl 71) 7 = hr.2.1 (.inl 105) 79 := B
  rw [f132_eq, f260_eq, f159_eq, w_ws, w_ws, w_ws]
  by_cases c1 : f173 a1 0 5 = 0
  · rw [if_pos c1, if_pos c1]
    exact ⟨rfl, B⟩
  · rw [if_neg c1, if_neg c1]
    by_cases c2 : f173 a2 (-99) 99 = 0
    · rw [if_pos c2, if_pos c2]
      exact ⟨rfl, B⟩
    · rw [if_neg c2, if_neg c2]
      by_cases c3 : f173 a3 0 99 ≠ 0
      · rw [if_pos c3, if_pos c3]
        by_cases c4 : (hc.2.1 (.inl 71) 7).toInt < 6
        · have l6 : hc.2.1 (.inl 71) 7 < 6 := i_lt rfl k_6 c4
          have e : (f2 a1 a2 a3 hc).2.1 (.inl 71) 7 = hr.2.1 (.inl 105) 79 + 1 := by
            rw [f2_eq, if_pos l6, ← B']
            rfl
          rw [if_pos l6, if_pos (show hr.2.1 (.inl 105) 79 ≠ 6 from fun z => by
            rw [B', z] at c4
            exact absurd c4 (by decide +kernel))]
          exact ⟨e, e⟩
        · rw [if_neg (i_nlt rfl k_6 (by omega)), if_neg (show ¬ hr.2.1 (.inl 105) 79 ≠ 6 from fun z => z (B' ▸ i_eq rfl k_6 (by omega)))]
          exact ⟨rfl, B⟩
      · rw [if_neg c3, if_neg c3]
        exact ⟨rfl, B⟩
theorem ml_itr_inv {σ ρ : Type} {s : σ → σ ⊕ ρ} {P : ρ → Prop} (I : ∀ x r, s x = .inr r → P r) : ∀ (n : Nat) (x : σ) (r : ρ), ml_itr s n x = some r → P r
  | 0, _, _, e => by cases e
  | n + 1, x, r, e => by
    cases es : s x with
    | inl y =>
      rw [ml_itr_i es] at e
      exact ml_itr_inv I n y r e
    | inr q =>
      rw [ml_itr_r es] at e
      cases e
      exact I x r es
theorem ml_wh_inv {σ ρ : Type} [Inhabited ρ] {s : σ → σ ⊕ ρ} {P : ρ → Prop} (hd : P default) (I : ∀ x r, s x = .inr r → P r) (x : σ) : P (ml_wh s x) := by
  by_cases h : ∃ r, ∃ n, ml_itr s n x = some r
  · have e : ml_wh s x = Classical.choose h := dif_pos h
    rw [e]
    obtain ⟨n, hn⟩ := Classical.choose_spec h
    exact ml_itr_inv I n x _ hn
  · have e : ml_wh s x = default := dif_neg h
    rw [e]
    exact hd
theorem R261 {a2 a3 a4 : Int32} : (g261_41 a2 a3 a4 h).2.2.1 (.inl 105) 79 = 0 := by
  unfold g261_41
  refine ml_wh_inv (P := fun r : Int32 × mx_H => r.2.2.1 (.inl 105) 79 = 0) rfl (fun x r e => ?_) _
  rcases x with ⟨b2, b3, b4, g⟩ | ⟨b2, b3, b4, b5, g⟩
  · simp only [b261] at e
    split at e
    · cases e
      exact rI_s
    · cases e
  · simp only [b261, x_let] at e
    split at e
    · cases e
    · split at e
      · cases e
      · split at e
        · cases e
        · split at e
          · cases e
          · cases e
theorem st_rolled (A : rs_A hc hr S N) (B : rt_b hc hr) : rt_b (f133 a1 a2 hc).2 (f261 a1 a2 hr).2 := by
  have B' : hc.2.1 (.inl 71) 7 = hr.2.1 (.inl 105) 79 := B
  rw [f133_eq, f261_eq, ← w_ws]
  rcases C166 (a := a1) A with ⟨s, lt, h1, e1, e1'⟩ | ⟨e1, e1'⟩
  · rw [e1, e1', if_neg n10]
    show rt_b (if f157 a2 1 200 ≠ 0 then _ else _ : Int32 × mx_H).2 _
    by_cases c : f157 a2 1 200 ≠ 0
    · rw [if_pos c, if_pos c]
      by_cases c2 : hr.2.1 (.inl 105) 79 ≠ 0
      · rw [B', if_pos c2, if_pos c2]
        refine Eq.trans ?_ R261.symm
        exact rI_s
      · rw [B', if_neg c2, if_neg c2]
        exact B
    · rw [if_neg c, if_neg c]
      exact B
  · rw [e1, e1', if_pos rfl]
    exact B
end RTC
/-! ===== what the law carries; exact answers beside what is safe ===== -/
def rt_Q (h : mx_H) : Prop := rt_R h ∧ rt_B h
set_option maxRecDepth 1000000 in
theorem rt_Q00 : sp_hN.2.1 (.inl 71) 7 = sp_hN.2.1 (.inl 105) 79 := by decide +kernel
theorem rt_Q0 : rt_Q sp_hN := ⟨rt_0, rt_Q00⟩
section RTD
variable {E : mx_Ev} {d n : Nat} {av : List mx_V} {h h2 : mx_H} {Q : Option mx_V → mx_H → Prop} {M : mx_H → Prop} {m : Nat}
theorem rt_Ci {r : Int32 × mx_H} (T : mx_C E (mx_fn true) d n av h (fun v h' => ∃ x, v = some (.inl (.int x)) ∧ sf_I h' ∧ M h')) (X : ∀ k, mx_M E k n av h (fun v h' => v = some (.inl (.int r.1)) ∧ h' = r.2)) (K : sf_I r.2 → M r.2 → Q (some (.inl (.int r.1))) r.2) : mx_C E (mx_fn true) d n av h Q :=
  (T.and X).mono (fun v h' q => by
    obtain ⟨⟨x, -, I, e⟩, e1, e2⟩ := q
    subst e2
    rw [e1]
    exact K I e)
theorem xk_i {r q : Int32 × mx_H} (e : q = r) : xK_i (fun v h' => v = some (.inl (.int r.1)) ∧ h' = r.2) q := by
  subst e
  exact And.intro rfl rfl
theorem rt_eq {X : Prop} (R : rt_R h) (b : m &&& rt_Mr = 0) (e : sf_El m h h2) (k : ∀ S N, rt_P h h2 S N → X) : X := by
  obtain ⟨S, N, P, -, -⟩ := R
  exact k S N (P.r b e)
theorem rt_Qf {h' : mx_H} (b1 : m &&& rt_Mc = 0) (b2 : m &&& rt_Mr = 0) (b5 : m &&& rt_Ms = 0) (b6 : m &&& rt_Ml = 0) (b3 : m.testBit 171 = false) (b4 : m.testBit 303 = false) (e : sf_E m h h') (R : rt_Q h) : rt_Q h' := ⟨rt_f b1 b2 b5 b6 e R.1, rt_Bf b3 b4 e.l R.2⟩
end RTD
/-! ===== digest: alike ===== -/
section RTF
variable {h hc hr : mx_H} {S N s n C F u v c k : Nat} {a a1 a2 a3 a4 x y : Int32}
theorem dg_c (h1 : a2.toInt = (s : Int)) (s12 : s ≤ 12) (Ds : rs_D hc hr N s C n F) (hb : ∀ i, hr.2.1 (.inl 110) i = 0 ∨ hr.2.1 (.inl 110) i = 1) : ∀ (j c : Nat) (x a3 y : Int32), c + j = C → a3.toInt = (c : Int) → y.toInt = ((6 * s + c : Nat) : Int) → ∃ x', g68_4 s x a3 hc = g68_62 s x' 0 hc ∧ g206_18 x a2 y hr = g206_97 x' a2 0 hr
  | 0, c, x, a3, y, e, ha, hy => by
    have kc := Ds.2.2.2.1
    have kr := Ds.2.2.2.2.1
    have C6 := Ds.2.1
    refine ⟨x, ?_, ?_⟩
    · rw [g68_4_eq, if_pos (i_le kc ha (by omega))]
    · rw [g206_18_eq, i_cl h1, if_pos (i_le (i_add (i_mul k_6 h1 (by omega) (by omega)) kr (by omega) (by omega)) hy (by omega))]
  | j + 1, c, x, a3, y, e, ha, hy => by
    have kc := Ds.2.2.2.1
    have kr := Ds.2.2.2.2.1
    have C6 := Ds.2.1
    obtain ⟨b1, b2, b3, b4⟩ := Ds.2.2.2.2.2.2.2.1 c (by omega)
    have ha1 : (a3 + 1).toInt = ((c + 1 : Nat) : Int) := (i_add ha k_1 (by omega) (by omega)).trans (by omega)
    have hy1 : (y + 1).toInt = ((6 * s + (c + 1) : Nat) : Int) := (i_add hy k_1 (by omega) (by omega)).trans (by omega)
    have E1 : g68_4 s x a3 hc = g68_4 s ((((x * 31 + hr.2.1 (.inl 107) (6 * s + c)) * 31 + hr.2.1 (.inl 108) (6 * s + c)) * 31 + hr.2.1 (.inl 109) (6 * s + c)) * 31 + hr.2.1 (.inl 110) (6 * s + c)) (a3 + 1) hc := by
      rw [g68_4_eq, if_neg (i_nle kc ha (by omega)), i_cl ha, b1, b2, b3, b4]
    have E2 : g206_18 x a2 y hr = g206_18 ((((x * 31 + hr.2.1 (.inl 107) (6 * s + c)) * 31 + hr.2.1 (.inl 108) (6 * s + c)) * 31 + hr.2.1 (.inl 109) (6 * s + c)) * 31 + hr.2.1 (.inl 110) (6 * s + c)) a2 (y + 1) hr := by
      rw [g206_18_eq, i_cl h1, if_neg (i_nle (i_add (i_mul k_6 h1 (by omega) (by omega)) kr (by omega) (by omega)) hy (by omega)), i_cl hy]
      rcases hb (6 * s + c) with z | z
      · rw [if_pos z, z]
      · rw [if_neg (by rw [z]; exact n10), z]
    obtain ⟨x', z1, z2⟩ := dg_c h1 s12 Ds hb j (c + 1) _ (a3 + 1) (y + 1) (by omega) ha1 hy1
    exact ⟨x', E1.trans z1, E2.trans z2⟩
theorem f174_m {u v : Nat} (hx : x.toInt = (u : Int)) (hy : y.toInt = (v : Int)) : (f174 x y).toInt = ((min u v : Nat) : Int) := (f174_v hx hy).trans (by omega)
theorem f175_m {u v : Nat} (hx : x.toInt = (u : Int)) (hy : y.toInt = (v : Int)) : (f175 x y).toInt = ((max u v : Nat) : Int) := by
  rw [f175_eq]
  by_cases t : x ≤ y
  · have t' := Int32.le_iff_toInt_le.mp t
    rw [if_pos t]
    omega
  · have t' : y.toInt < x.toInt := Int.not_le.mp (fun q => t (Int32.le_iff_toInt_le.mpr q))
    rw [if_neg t]
    omega
theorem dg_p (h1 : a2.toInt = (s : Int)) (s12 : s ≤ 12) (N2 : N ≤ 200) (hN : rD hr (.inl 105) 12 = N) (Ds : rs_D hc hr N s C n F) (Hm : ∀ b, b < N → ¬ (F ≤ b ∧ b < F + n) → hr.2.1 (.inl 117) b = 0 ∨ ∃ s' u v : Nat, s' ≤ 12 ∧ s' ≠ s ∧ u < 6 ∧ v < 6 ∧ rD hr (.inl 117) b = ((36 * s' + 6 * u + v + 1 : Nat) : Int)) :
    ∀ (j b k : Nat) (x a3 y : Int32), b + j = N → y.toInt = (b : Int) → a3.toInt = (k : Int) → (b ≤ F ∧ k = 0) ∨ (F < b ∧ b ≤ F + n ∧ k = b - F) ∨ (F + n < b ∧ k = n) → g206_97 x a2 y hr = g206_5 (g68_62 s x a3 hc) (a2 + 1) hr
  | 0, b, k, x, a3, y, e, hy, ha, K => by
    have fn := Ds.2.2.1
    have k6 := Ds.2.2.2.2.2.1
    rw [g206_97_eq, if_pos (i_le hN hy (by omega)), g68_62_eq, if_pos (i_le k6 ha (by omega))]
  | j + 1, b, k, x, a3, y, e, hy, ha, K => by
    have fn := Ds.2.2.1
    have k6 := Ds.2.2.2.2.2.1
    have C6 := Ds.2.1
    have hy1 : (y + 1).toInt = ((b + 1 : Nat) : Int) := (i_add hy k_1 (by omega) (by omega)).trans (by omega)
    by_cases c : F ≤ b ∧ b < F + n
    · have kb : k = b - F := by omega
      obtain ⟨u, v, Q⟩ := Ds.2.2.2.2.2.2.2.2.2.1 k (by omega)
      have q12 := Q.2.2.2.2.2.2.2.2.2.2.2.1
      rw [show F + k = b by omega] at q12
      have u1 := Q.1
      have v1 := Q.2.1
      have t := R278t q12 (show u < 6 by omega) (show v < 6 by omega) s12
      obtain ⟨d1, d2, d3⟩ := R_dec t (show u < 6 by omega) (show v < 6 by omega) s12
      have lo : f174 ((hr.2.1 (.inl 117) b - 1) / 6 - (hr.2.1 (.inl 117) b - 1) / 6 / 6 * 6) (hr.2.1 (.inl 117) b - 1 - (hr.2.1 (.inl 117) b - 1) / 6 * 6) = hc.2.1 (.inr (s, 5)) k := i_eq (f174_m d2 d3) Q.2.2.2.1 rfl
      have hi : f175 ((hr.2.1 (.inl 117) b - 1) / 6 - (hr.2.1 (.inl 117) b - 1) / 6 / 6 * 6) (hr.2.1 (.inl 117) b - 1 - (hr.2.1 (.inl 117) b - 1) / 6 * 6) = hc.2.1 (.inr (s, 6)) k := i_eq (f175_m d2 d3) Q.2.2.2.2.1 rfl
      rw [g206_97_eq, if_neg (i_nle hN hy (by omega)), i_cl hy, if_neg (i_nlt t k_0 (by omega)), if_pos (i_eq d1 h1 rfl), lo, hi, i_cl t, Q.2.2.2.2.2.2.2.1, Q.2.2.2.2.2.2.2.2.2.1]
      rw [g68_62_eq, if_neg (i_nle k6 ha (by omega)), i_cl ha]
      exact dg_p h1 s12 N2 hN Ds Hm j (b + 1) (k + 1) _ (a3 + 1) (y + 1) (by omega) hy1 ((i_add ha k_1 (by omega) (by omega)).trans (by omega)) (by omega)
    · have E : g206_97 x a2 y hr = g206_97 x a2 (y + 1) hr := by
        rw [g206_97_eq, if_neg (i_nle hN hy (by omega)), i_cl hy]
        rcases Hm b (by omega) c with z | ⟨s', u, v, w1, w2, w3, w4, w5⟩
        · rw [z, if_pos (by decide +kernel)]
        · have t := R278t w5 w3 w4 w1
          obtain ⟨d1, d2, d3⟩ := R_dec t w3 w4 w1
          rw [if_neg (i_nlt t k_0 (by omega)), if_neg (i_ne d1 h1 (by omega))]
      rw [E]
      exact dg_p h1 s12 N2 hN Ds Hm j (b + 1) k x a3 (y + 1) (by omega) hy1 ha (by omega)
theorem dg_s (I : sf_I hr) (A : rs_A hc hr S N) : ∀ (j s : Nat) (x y : Int32), s + j = S → y.toInt = (s : Int) → g146_5 x y hc = g206_5 x y hr
  | 0, s, x, y, e, hy => by
    rw [g146_5_eq, if_pos (i_le A.2.2.1 hy (by omega)), g206_5_eq, if_pos (i_le A.2.2.2.1 hy (by omega))]
  | j + 1, s, x, y, e, hy => by
    obtain ⟨A1, A2, A3, A4, A5, A6, A7, A8, A9, A10⟩ := id A
    rcases C166 (a := y) A with ⟨s', lt, h1, e1, e1'⟩ | ⟨e1, e1'⟩
    · have es : s' = s := by omega
      subst es
      obtain ⟨C, n, F, Ds⟩ := (A9 s' lt).2
      have C6 := Ds.2.1
      have hy6 : (6 * y).toInt = ((6 * s' + 0 : Nat) : Int) := (i_mul k_6 hy (by omega) (by omega)).trans (by omega)
      obtain ⟨x', z1, z2⟩ := dg_c hy (by omega) Ds (sf_110 I) C 0 x 0 (6 * y) (by omega) rfl hy6
      have z3 := dg_p (a2 := y) hy (by omega) A2 A6 Ds (rs_Hm A Ds (fun _ _ => rfl)) N 0 0 x' 0 0 (by omega) rfl rfl (Or.inl ⟨by omega, rfl⟩)
      rw [g146_5_eq, if_neg (i_nle A3 hy (by omega)), e1, g206_5_eq, if_neg (i_nle A4 hy (by omega)), z2, z3]
      show g146_5 (f68 s' x hc) (y + 1) hc = _
      rw [f68_eq, z1]
      exact dg_s I A j (s' + 1) _ (y + 1) (by omega) ((i_add hy k_1 (by omega) (by omega)).trans (by omega))
    · exfalso
      rw [f177_eq, w173_1 hy k_0 (i_sub A4 k_1 (by omega) (by omega)) (by omega)] at e1'
      exact n10 e1'
theorem aw_digest (I : sf_I hr) (A : rs_A hc hr S N) : f146 hc = f206 hr := by
  rw [f146_eq, f206_eq]
  exact dg_s I A S 0 7 0 (by omega) rfl
end RTF
/-! ===== the shelves: what they hold, on both sides ===== -/
section RTG
variable {h hc hr : mx_H} {S N s : Nat} {a1 a2 a3 : Int32} {v : Int64}
theorem sh_in (c : ¬ f173 a1 0 5 = 0) : ∃ s : Nat, s < 6 ∧ a1.toInt = (s : Int) := by
  by_cases q : (0 : Int32).toInt ≤ a1.toInt ∧ a1.toInt ≤ (5 : Int32).toInt
  · rw [k_0, k_5] at q
    exact ⟨a1.toInt.toNat, by omega, by omega⟩
  · exact absurd (by rw [w173, if_neg q]) c
theorem st_keep (A : rs_A hc hr S N) (K : rt_S hc hr N) : rt_S (f150 a1 a2 hc).2 (f301 a1 a2 hr).2 N := by
  have e : hc.2.1 (.inl 90) 0 = hr.2.1 (.inl 105) 12 := i_eq A.2.2.2.2.1 A.2.2.2.2.2.1 rfl
  have N2 := A.2.1
  have hN := A.2.2.2.2.2.1
  rw [f150_eq, f301_eq, f161_eq, f300_eq, f163_eq, f283_eq, e, w_ws, w_ws]
  by_cases c1 : f173 a1 0 5 = 0
  · rw [if_pos c1, if_pos c1]
    exact K
  · obtain ⟨t, t6, ht⟩ := sh_in c1
    rw [if_neg c1, if_neg c1, i_cl ht]
    by_cases c2 : a2 = -1
    · rw [if_pos c2, if_pos c2]
      show rt_S (f70 a1 a2 hc) (mx_uI hr (.inl 163) t a2) N
      rw [f70_eq, i_cl ht, c2, if_neg (by decide +kernel)]
      intro s hs
      by_cases es : s = t
      · refine Or.inl ⟨?_, ?_⟩
        · show (mx_uI hc (.inl 95) t (-2)).2.1 (.inl 95) s = -2
          rw [sh_i, if_pos es]
        · rw [sh_i, if_pos es]
      · have r1 : (mx_uI (mx_uI (mx_uI hc (.inl 95) t (-2)) (.inl 97) t (if (-1 : Int32) < 0 then 0 else -1)) (.inl 96) t 0).2.1 (.inl 95) s = hc.2.1 (.inl 95) s := by
          show (mx_uI hc (.inl 95) t (-2)).2.1 (.inl 95) s = _
          rw [sh_i, if_neg es]
        have r2 : (mx_uI (mx_uI (mx_uI hc (.inl 95) t (-2)) (.inl 97) t (if (-1 : Int32) < 0 then 0 else -1)) (.inl 96) t 0).2.1 (.inl 97) s = hc.2.1 (.inl 97) s := by
          show (mx_uI (mx_uI hc (.inl 95) t (-2)) (.inl 97) t (if (-1 : Int32) < 0 then 0 else -1)).2.1 (.inl 97) s = _
          rw [sh_i, if_neg es]
          rfl
        have r3 : (mx_uI (mx_uI (mx_uI hc (.inl 95) t (-2)) (.inl 97) t (if (-1 : Int32) < 0 then 0 else -1)) (.inl 96) t 0).2.1 (.inl 96) s = hc.2.1 (.inl 96) s := by
          rw [sh_i, if_neg es]
          rfl
        have r4 : (mx_uI hr (.inl 163) t (-1)).2.1 (.inl 163) s = hr.2.1 (.inl 163) s := by rw [sh_i, if_neg es]
        unfold rD
        rw [r1, r2, r3, r4]
        exact K s hs
    · rw [if_neg c2, if_neg c2]
      by_cases c3 : f173 a2 0 (hr.2.1 (.inl 105) 12 - 1) ≠ 0
      · rw [if_pos c3, if_pos c3]
        have b : 0 ≤ a2.toInt ∧ a2.toInt ≤ (N : Int) - 1 := Classical.byContradiction fun q => c3 (w173_0 rfl k_0 (i_sub hN k_1 (by omega) (by omega)) q)
        show rt_S (f70 a1 a2 hc) (mx_uI hr (.inl 163) t a2) N
        rw [f70_eq, i_cl ht, if_pos (i_le k_0 rfl b.1), if_neg (i_nlt rfl k_0 b.1)]
        intro s hs
        by_cases es : s = t
        · refine Or.inr (Or.inl ⟨?_, a2.toInt.toNat, by omega, ?_, ?_⟩)
          · show (mx_uI hc (.inl 95) t (-1)).2.1 (.inl 95) s = -1
            rw [sh_i, if_pos es]
          · show ((mx_uI (mx_uI hc (.inl 95) t (-1)) (.inl 97) t a2).2.1 (.inl 97) s).toInt = _
            rw [sh_i, if_pos es]
            omega
          · unfold rD
            rw [sh_i, if_pos es]
            omega
        · have r1 : (mx_uI (mx_uI (mx_uI hc (.inl 95) t (-1)) (.inl 97) t a2) (.inl 96) t 0).2.1 (.inl 95) s = hc.2.1 (.inl 95) s := by
            show (mx_uI hc (.inl 95) t (-1)).2.1 (.inl 95) s = _
            rw [sh_i, if_neg es]
          have r2 : (mx_uI (mx_uI (mx_uI hc (.inl 95) t (-1)) (.inl 97) t a2) (.inl 96) t 0).2.1 (.inl 97) s = hc.2.1 (.inl 97) s := by
            show (mx_uI (mx_uI hc (.inl 95) t (-1)) (.inl 97) t a2).2.1 (.inl 97) s = _
            rw [sh_i, if_neg es]
            rfl
          have r3 : (mx_uI (mx_uI (mx_uI hc (.inl 95) t (-1)) (.inl 97) t a2) (.inl 96) t 0).2.1 (.inl 96) s = hc.2.1 (.inl 96) s := by
            rw [sh_i, if_neg es]
            rfl
          have r4 : (mx_uI hr (.inl 163) t a2).2.1 (.inl 163) s = hr.2.1 (.inl 163) s := by rw [sh_i, if_neg es]
          unfold rD
          rw [r1, r2, r3, r4]
          exact K s hs
      · rw [if_neg c3, if_neg c3]
        exact K
/-- clearing longs leaves the ints -/
theorem C316 {a : mx_A} {w : Int64} {y : Int32} {n : Nat} (hy : y.toInt = (n : Int)) (n60 : n ≤ 1000) : ∀ (j i : Nat) (x : Int32) (h : mx_H), i + j = n → x.toInt = (i : Int) → (g316_6 a w x y h).2.1 = h.2.1
  | 0, i, x, h, e, hx => by rw [g316_6_eq, if_pos (i_le hy hx (by omega))]
  | j + 1, i, x, h, e, hx => by
    rw [g316_6_eq, if_neg (i_nle hy hx (by omega)), C316 hy n60 j (i + 1) (x + 1) _ (by omega) ((i_add hx k_1 (by omega) (by omega)).trans (by omega))]
    rfl
theorem k_60 : (60 : Int32).toInt = 60 := rfl
theorem R302 {t : Nat} (ht : a1.toInt = (t : Int)) (t6 : t < 6) : ∀ (j i : Nat) (x : Int32) (h : mx_H), i + j = 60 → x.toInt = ((60 * t + i : Nat) : Int) → (g302_54 a1 x h).1 = 1 ∧ (g302_54 a1 x h).2.2.1 = h.2.1
  | 0, i, x, h, e, hx => by
    have b := i_add (i_mul k_60 ht (by omega) (by omega)) k_60 (by omega) (by omega)
    rw [g302_54_eq, if_pos (i_le b hx (by omega))]
    exact ⟨rfl, rfl⟩
  | j + 1, i, x, h, e, hx => by
    have b := i_add (i_mul k_60 ht (by omega) (by omega)) k_60 (by omega) (by omega)
    rw [g302_54_eq, if_neg (i_nle b hx (by omega))]
    exact R302 ht t6 j (i + 1) (x + 1) _ (by omega) ((i_add hx k_1 (by omega) (by omega)).trans (by omega))
theorem rt_S.x {hc' hr' : mx_H} (e1 : hc'.2.1 = hc.2.1) (e2 : hr'.2.1 = hr.2.1) (K : rt_S hc hr N) : rt_S hc' hr' N := by
  unfold rt_S rD at K ⊢
  rw [e1, e2]
  exact K
theorem C71 {t : Nat} (ht : a1.toInt = (t : Int)) : (f71 a1 a2 a3 h).2.1 = (mx_uI (mx_uI h (.inl 95) t a2) (.inl 96) t a3).2.1 := by
  rw [f71_eq, i_cl ht]
  generalize mx_uI (mx_uI h (.inl 95) t a2) (.inl 96) t a3 = g
  show (f316 (.inr (t, 20)) 0 g).2.1 = _
  rw [f316_eq]
  have l : (mx_lo (.inr (t, 20))).2 = 60 := rfl
  rw [l]
  exact C316 (n := 60) k_60 (by omega) 60 0 0 g (by omega) rfl
theorem R302r {t : Nat} {g : mx_H} (ht : a1.toInt = (t : Int)) (t6 : t < 6) : (g302_54 a1 (60 * a1) g).2.2.1 = g.2.1 := (R302 ht t6 60 0 (60 * a1) g (by omega) ((i_mul k_60 ht (by omega) (by omega)).trans (by omega))).2
theorem sh_row {t : Nat} (t6 : t < 6) (b : 0 ≤ a2.toInt ∧ a2.toInt ≤ 4) (K : rt_S hc hr N) : rt_S (mx_uI (mx_uI hc (.inl 95) t a2) (.inl 96) t a3) (mx_uI (mx_uI hr (.inl 163) t (-2 - a2)) (.inl 164) t a3) N := fun s hs => by
  have r1 : (mx_uI (mx_uI hc (.inl 95) t a2) (.inl 96) t a3).2.1 (.inl 95) s = if s = t then a2 else hc.2.1 (.inl 95) s := by
    rw [rN (show (95 : Nat) ≠ 96 by decide +kernel)]
    exact sh_i
  have r2 : (mx_uI (mx_uI hc (.inl 95) t a2) (.inl 96) t a3).2.1 (.inl 96) s = if s = t then a3 else hc.2.1 (.inl 96) s := by
    rw [sh_i, rN (show (96 : Nat) ≠ 95 by decide +kernel)]
  have r3 : (mx_uI (mx_uI hc (.inl 95) t a2) (.inl 96) t a3).2.1 (.inl 97) s = hc.2.1 (.inl 97) s := by
    rw [rN (show (97 : Nat) ≠ 96 by decide +kernel), rN (show (97 : Nat) ≠ 95 by decide +kernel)]
  have r4 : (mx_uI (mx_uI hr (.inl 163) t (-2 - a2)) (.inl 164) t a3).2.1 (.inl 163) s = if s = t then -2 - a2 else hr.2.1 (.inl 163) s := by
    rw [rN (show (163 : Nat) ≠ 164 by decide +kernel)]
    exact sh_i
  have r5 : (mx_uI (mx_uI hr (.inl 163) t (-2 - a2)) (.inl 164) t a3).2.1 (.inl 164) s = if s = t then a3 else hr.2.1 (.inl 164) s := by
    rw [sh_i, rN (show (164 : Nat) ≠ 163 by decide +kernel)]
  unfold rD
  rw [r1, r2, r3, r4, r5]
  by_cases es : s = t
  · rw [if_pos es, if_pos es, if_pos es, if_pos es]
    exact Or.inr (Or.inr ⟨a2.toInt.toNat, by omega, by omega, (i_sub k_m2 rfl (by omega) (by omega)).trans (by omega), rfl⟩)
  · rw [if_neg es, if_neg es, if_neg es, if_neg es]
    exact K s hs
theorem st_row (K : rt_S hc hr N) : rt_S (f151 a1 a2 a3 hc).2 (f302 a1 a2 a3 hr).2 N := by
  have L := f151_eq a1 a2 a3 hc
  have T := f302_eq a1 a2 a3 hr
  rw [f161_eq, w_ws, w_ws] at L
  rw [f300_eq] at T
  by_cases c1 : f173 a1 0 5 = 0
  · rw [if_pos c1] at L T
    rw [L, T]
    exact K
  · obtain ⟨t, t6, ht⟩ := sh_in c1
    rw [if_neg c1] at L T
    rw [i_cl ht] at T
    by_cases c2 : f173 a2 0 4 = 0
    · rw [if_pos c2] at L T
      rw [L, T]
      exact K
    · rw [if_neg c2] at L T
      have b : 0 ≤ a2.toInt ∧ a2.toInt ≤ 4 := Classical.byContradiction fun q => c2 (w173_0 rfl k_0 k_4 q)
      by_cases c3 : a3 ≤ 60
      · rw [if_pos c3] at L T
        by_cases c4 : 0 ≤ a3
        · rw [if_pos c4] at L T
          have E1 : (f151 a1 a2 a3 hc).2.2.1 = (mx_uI (mx_uI hc (.inl 95) t a2) (.inl 96) t a3).2.1 := by
            rw [L]
            exact C71 ht
          have E2 : (f302 a1 a2 a3 hr).2.2.1 = (mx_uI (mx_uI hr (.inl 163) t (-2 - a2)) (.inl 164) t a3).2.1 := by
            rw [T]
            exact R302r ht t6
          exact rt_S.x E1 E2 (sh_row t6 b K)
        · rw [if_neg c4] at L T
          rw [L, T]
          exact K
      · rw [if_neg c3] at L T
        rw [L, T]
        exact K
end RTG
/-! ===== a net loaded alike ===== -/
section NT
variable {h g hc hr : mx_H} {S N s n C F t c k u v : Nat} {a1 a2 a3 x y w : Int32}
theorem nq {q : Nat} {P : Prop} (e : q ≠ 105) : ¬ (q = 105 ∧ P) := fun w => e w.1
def kn_F (h g : mx_H) (t : Nat) : Prop := g.1 = h.1 ∧ g.2.2 = h.2.2 ∧ (∀ q i, g.2.1 (.inl q) i = h.2.1 (.inl q) i) ∧ ∀ s o i, ¬ (s = t ∧ 30 ≤ o ∧ o ≤ 34) → g.2.1 (.inr (s, o)) i = h.2.1 (.inr (s, o)) i
theorem kn_F.refl : kn_F h h t := ⟨rfl, rfl, fun _ _ => rfl, fun _ _ _ _ => rfl⟩
theorem kn_F.fu {o i : Nat} (h1 : 30 ≤ o) (h2 : o ≤ 34) (F : kn_F h g t) : kn_F h (mx_uI g (.inr (t, o)) i x) t := ⟨F.1, F.2.1, fun q i' => (rI_a (fun e => by cases e)).trans (F.2.2.1 q i'), fun s o' i' q => (rI_a (fun e => by
  cases e
  exact q ⟨rfl, h1, h2⟩)).trans (F.2.2.2 s o' i' q)⟩
theorem i_s0 : x - 0 = x := by
  have b := i_b x
  exact i_eq (i_sub (x := x) rfl k_0 (by omega) (by omega)) rfl (by omega)
theorem w24 (h1 : 1 ≤ x.toInt) (h2 : x.toInt ≤ 9) : f24 x = x := by
  rw [f24_eq]
  by_cases c : x.toInt < 9
  · rw [if_pos (i_lt rfl k_9 c)]
    by_cases d : 1 < x.toInt
    · rw [if_pos (i_lt k_1 rfl d)]
    · rw [if_neg (i_nlt k_1 rfl (by omega))]
      exact i_eq k_1 rfl (by omega)
  · have e : x = 9 := i_eq rfl k_9 (by omega)
    subst e
    decide
/-- what a corner weighs in the class's net -/
noncomputable def kn_m (x w : Int32) : Int32 := if f24 (x - 0) + w < 9 then f24 (x - 0) + w else 9
theorem w_mass (h1 : 1 ≤ x.toInt) (h2 : x.toInt ≤ 9) (w1 : 0 ≤ w.toInt) (w2 : w.toInt ≤ 9) : kn_m x w = f207 x w ∧ 1 ≤ (f207 x w).toInt ∧ (f207 x w).toInt ≤ 9 := by
  unfold kn_m
  rw [i_s0, w24 h1 h2, f207_eq]
  have e := i_add (x := x) (y := w) rfl rfl (by omega) (by omega)
  by_cases c : x.toInt + w.toInt < 9
  · rw [if_pos (i_lt e k_9 c), if_pos (i_le e k_9 (by omega))]
    exact ⟨rfl, by rw [e]; omega, by rw [e]; omega⟩
  · rw [if_neg (i_nlt e k_9 (by omega))]
    by_cases d : x.toInt + w.toInt ≤ 9
    · rw [if_pos (i_le e k_9 d)]
      exact ⟨i_eq k_9 e (by omega), by rw [e]; omega, by rw [e]; omega⟩
    · rw [if_neg (i_nle e k_9 (by omega))]
      exact ⟨rfl, by decide +kernel, by decide +kernel⟩
noncomputable def kn_s (h : mx_H) (t s i : Nat) : mx_H := mx_uI (mx_uI (mx_uI h (.inr (t, 31)) i (kn_m (h.2.1 (.inr (s, 1)) i) (h.2.1 (.inr (s, 3)) i))) (.inr (t, 32)) i (h.2.1 (.inr (s, 2)) i)) (.inr (t, 33)) i (h.2.1 (.inr (s, 4)) i)
theorem C23c (hC : rD h (.inr (t, 30)) 0 = C) (ha : a3.toInt = (c : Int)) (lt : c < C) : g23_18 t s 0 a3 h = g23_18 t s 0 (a3 + 1) (kn_s h t s c) := by
  rw [g23_18_eq, if_neg (i_nle hC ha (by omega)), f25_eq, i_cl ha]
  simp only [x_h, rP (o := 2) (o' := 31) (by decide +kernel), rP (o := 4) (o' := 31) (by decide +kernel), rP (o := 4) (o' := 32) (by decide +kernel)]
  rfl
/-- c corners are weighed -/
def kn_C (h g : mx_H) (t s C c : Nat) : Prop := kn_F h g t ∧ rD g (.inr (t, 30)) 0 = C ∧ (∀ i, i < 36 → g.2.1 (.inr (t, 34)) i = 0) ∧ ∀ i, i < c → g.2.1 (.inr (t, 31)) i = kn_m (h.2.1 (.inr (s, 1)) i) (h.2.1 (.inr (s, 3)) i) ∧ g.2.1 (.inr (t, 32)) i = h.2.1 (.inr (s, 2)) i ∧ g.2.1 (.inr (t, 33)) i = h.2.1 (.inr (s, 4)) i
theorem C23l (C6 : C ≤ 6) : ∀ (j c : Nat) (a3 : Int32) {g : mx_H}, c + j = C → a3.toInt = (c : Int) → kn_C h g t s C c → ∃ g', g23_18 t s 0 a3 g = g23_80 t s 0 0 g' ∧ kn_C h g' t s C C
  | 0, c, a3, g, e, ha, K => by
    refine ⟨g, ?_, (show c = C by omega) ▸ K⟩
    rw [g23_18_eq, if_pos (i_le K.2.1 ha (by omega))]
  | j + 1, c, a3, g, e, ha, K => by
    obtain ⟨K1, K2, K3, K4⟩ := K
    rw [C23c K2 ha (by omega)]
    refine C23l C6 j (c + 1) (a3 + 1) (by omega) ((i_add ha k_1 (by omega) (by omega)).trans (by omega)) ⟨((K1.fu (by decide +kernel) (by decide +kernel)).fu (by decide +kernel) (by decide +kernel)).fu (by decide +kernel) (by decide +kernel), ?_, fun i hi => ?_, fun i hi => ?_⟩
    · unfold rD kn_s
      rw [rP (by decide +kernel), rP (by decide +kernel), rP (by decide +kernel)]
      exact K2
    · unfold kn_s
      rw [rP (by decide +kernel), rP (by decide +kernel), rP (by decide +kernel)]
      exact K3 i hi
    · unfold kn_s
      by_cases z : i = c
      · subst z
        refine ⟨?_, ?_, ?_⟩
        · rw [rP (by decide +kernel), rP (by decide +kernel), rI_s, K1.2.2.2 s 1 i (by omega), K1.2.2.2 s 3 i (by omega)]
        · rw [rP (by decide +kernel), rI_s, K1.2.2.2 s 2 i (by omega)]
        · rw [rI_s, K1.2.2.2 s 4 i (by omega)]
      · rw [rI_i z, rI_i z, rI_i z, rI_i z, rI_i z, rI_i z, rI_i z, rI_i z, rI_i z]
        exact K4 i (by omega)
/-- what the pieces before F + c give a pair -/
def kn_L (hr : mx_H) (s F c u v : Nat) : Int32 := if 0 < rD hr (.inl 113) (36 * s + 6 * u + v) ∧ rD hr (.inl 113) (36 * s + 6 * u + v) ≤ ((F + c : Nat) : Int) then hr.2.1 (.inl 111) (36 * s + 6 * u + v) - hr.2.1 (.inl 112) (36 * s + 6 * u + v) else 0
def kn_P (hc hr g0 g : mx_H) (t s F c : Nat) : Prop := kn_F hc g t ∧ (∀ o i, o ≠ 34 → g.2.1 (.inr (t, o)) i = g0.2.1 (.inr (t, o)) i) ∧ ∀ u v, u < 6 → v < 6 → g.2.1 (.inr (t, 34)) (6 * u + v) = kn_L hr s F c u v
/-! the reference's net -/
def rn_F (h g : mx_H) : Prop := g.1 = h.1 ∧ g.2.2 = h.2.2 ∧ (∀ q i, g.2.1 (.inr q) i = h.2.1 (.inr q) i) ∧ ∀ q i, ¬ (128 ≤ q ∧ q ≤ 131) → ¬ (q = 105 ∧ i = 35) → g.2.1 (.inl q) i = h.2.1 (.inl q) i
theorem rn_F.fu {p i : Nat} (h1 : 128 ≤ p) (h2 : p ≤ 131) (F : rn_F h g) : rn_F h (mx_uI g (.inl p) i x) := ⟨F.1, F.2.1, fun q i' => (rI_a (fun e => by cases e)).trans (F.2.2.1 q i'), fun q i' e1 e2 => (rI_a (fun e => by
  cases e
  exact e1 ⟨h1, h2⟩)).trans (F.2.2.2 q i' e1 e2)⟩
def rn_l (h : mx_H) (s u v : Nat) : Int32 := if 0 < rD h (.inl 113) (36 * s + 6 * u + v) then h.2.1 (.inl 111) (36 * s + 6 * u + v) - h.2.1 (.inl 112) (36 * s + 6 * u + v) else 0
theorem R208q (h1 : a1.toInt = (s : Int)) (h2 : a2.toInt = (u : Int)) (h3 : a3.toInt = (c : Int)) (s12 : s ≤ 12) (C6 : C ≤ 6) (u6 : u < C) (lt : c < C) (K : rn_F h g) (hC : rD g (.inl 105) 35 = C) : g208_87 a1 a2 a3 g = g208_87 a1 a2 (a3 + 1) (mx_uI g (.inl 131) (6 * u + c) (rn_l h s u c)) := by
  rw [g208_87_eq, if_neg (i_nle hC h3 (by omega)), f180_eq, i_cl (w179 h1 h2 h3 s12 (by omega) (by omega)), i_cl (w6 h2 h3 (by omega) (by omega)), K.2.2.2 113 _ (by omega) (by omega), K.2.2.2 111 _ (by omega) (by omega), K.2.2.2 112 _ (by omega) (by omega)]
  unfold rn_l
  by_cases p : 0 < rD h (.inl 113) (36 * s + 6 * u + c)
  · rw [if_pos p, if_neg (i_nle rfl k_0 p), if_neg n10]
  · rw [if_neg p, if_pos (i_le rfl k_0 (Int.not_lt.mp p)), if_pos rfl]
theorem R208i (h1 : a1.toInt = (s : Int)) (h2 : a2.toInt = (u : Int)) (s12 : s ≤ 12) (C6 : C ≤ 6) (u6 : u < C) : ∀ (j c : Nat) (a3 : Int32) {g : mx_H}, c + j = C → a3.toInt = (c : Int) → rn_F h g → rD g (.inl 105) 35 = C → ∃ g', g208_87 a1 a2 a3 g = g208_12 a1 (a2 + 1) g' ∧ rn_F h g' ∧ (∀ q i, q ≠ 131 → g'.2.1 (.inl q) i = g.2.1 (.inl q) i) ∧ (∀ i, ¬ (6 * u + c ≤ i ∧ i < 6 * u + C) → g'.2.1 (.inl 131) i = g.2.1 (.inl 131) i) ∧ ∀ v, c ≤ v → v < C → g'.2.1 (.inl 131) (6 * u + v) = rn_l h s u v
  | 0, c, a3, g, e, ha, K, hC => by
    refine ⟨g, ?_, K, fun _ _ _ => rfl, fun _ _ => rfl, fun v q1 q2 => by omega⟩
    rw [g208_87_eq, if_pos (i_le hC ha (by omega))]
  | j + 1, c, a3, g, e, ha, K, hC => by
    obtain ⟨g', e1, K', f1, f2, f3⟩ := R208i h1 h2 s12 C6 u6 j (c + 1) (a3 + 1) (g := mx_uI g (.inl 131) (6 * u + c) (rn_l h s u c)) (by omega) ((i_add ha k_1 (by omega) (by omega)).trans (by omega)) (K.fu (by decide +kernel) (by decide +kernel)) hC
    refine ⟨g', (R208q h1 h2 ha s12 C6 u6 (by omega) K hC).trans e1, K', fun q i hq => (f1 q i hq).trans (rI_a (fun w => hq (Sum.inl.inj w))), fun i hi => (f2 i (by omega)).trans (rI_i (by omega)), fun v q1 q2 => ?_⟩
    by_cases z : v = c
    · subst z
      rw [f2 _ (by omega)]
      exact rI_s
    · exact f3 v (by omega) q2
noncomputable def rn_s (h : mx_H) (s u : Nat) (g : mx_H) : mx_H := mx_uI (mx_uI (mx_uI g (.inl 128) u (f207 (h.2.1 (.inl 107) (6 * s + u)) (h.2.1 (.inl 109) (6 * s + u)))) (.inl 129) u (h.2.1 (.inl 108) (6 * s + u))) (.inl 130) u (h.2.1 (.inl 110) (6 * s + u))
theorem R208s (h1 : a1.toInt = (s : Int)) (h2 : a2.toInt = (u : Int)) (s12 : s ≤ 12) (C6 : C ≤ 6) (u6 : u < C) (K : rn_F h g) (hC : rD g (.inl 105) 35 = C) (hb : h.2.1 (.inl 110) (6 * s + u) = 0 ∨ h.2.1 (.inl 110) (6 * s + u) = 1) : g208_12 a1 a2 g = g208_87 a1 a2 0 (rn_s h s u g) := by
  rw [g208_12_eq, if_neg (i_nle hC h2 (by omega)), i_cl h2, i_cl (w6 h1 h2 s12 (by omega))]
  simp only [x_val, rN (k := 108) (k' := 128) (by decide +kernel), rN (k := 110) (k' := 128) (by decide +kernel), rN (k := 110) (k' := 129) (by decide +kernel)]
  rw [K.2.2.2 107 _ (by omega) (by omega), K.2.2.2 109 _ (by omega) (by omega), K.2.2.2 108 _ (by omega) (by omega), K.2.2.2 110 _ (by omega) (by omega), nar01 hb]
  rfl
def rn_C (h g : mx_H) (s C c : Nat) : Prop := rn_F h g ∧ rD g (.inl 105) 35 = C ∧ (∀ i, i < c → g.2.1 (.inl 128) i = f207 (h.2.1 (.inl 107) (6 * s + i)) (h.2.1 (.inl 109) (6 * s + i)) ∧ g.2.1 (.inl 129) i = h.2.1 (.inl 108) (6 * s + i) ∧ g.2.1 (.inl 130) i = h.2.1 (.inl 110) (6 * s + i)) ∧ ∀ i v, i < c → v < C → g.2.1 (.inl 131) (6 * i + v) = rn_l h s i v
theorem R208o (h1 : a1.toInt = (s : Int)) (s12 : s ≤ 12) (C6 : C ≤ 6) (hb : ∀ i, i < C → h.2.1 (.inl 110) (6 * s + i) = 0 ∨ h.2.1 (.inl 110) (6 * s + i) = 1) : ∀ (j c : Nat) (a2 : Int32) {g : mx_H}, c + j = C → a2.toInt = (c : Int) → rn_C h g s C c → rn_C h (g208_12 a1 a2 g) s C C
  | 0, c, a2, g, e, ha, K => by
    rw [g208_12_eq, if_pos (i_le K.2.1 ha (by omega))]
    exact (show c = C by omega) ▸ K
  | j + 1, c, a2, g, e, ha, K => by
    obtain ⟨K1, K2, K3, K4⟩ := K
    obtain ⟨g', e1, K', f1, f2, f3⟩ := R208i (h := h) h1 ha s12 C6 (show c < C by omega) C 0 0 (g := rn_s h s c g) (by omega) rfl (((K1.fu (by decide +kernel) (by decide +kernel)).fu (by decide +kernel) (by decide +kernel)).fu (by decide +kernel) (by decide +kernel)) K2
    rw [R208s h1 ha s12 C6 (by omega) K1 K2 (hb c (by omega)), e1]
    refine R208o h1 s12 C6 hb j (c + 1) (a2 + 1) (by omega) ((i_add ha k_1 (by omega) (by omega)).trans (by omega)) ⟨K', ?_, fun i hi => ?_, fun i v hi hv => ?_⟩
    · unfold rD
      rw [f1 105 35 (by decide +kernel)]
      exact K2
    · rw [f1 128 i (by decide +kernel), f1 129 i (by decide +kernel), f1 130 i (by decide +kernel)]
      unfold rn_s
      by_cases z : i = c
      · subst z
        refine ⟨?_, ?_, ?_⟩
        · rw [rN (by decide +kernel), rN (by decide +kernel), rI_s]
        · rw [rN (by decide +kernel), rI_s]
        · rw [rI_s]
      · rw [rI_i z, rI_i z, rI_i z, rI_i z, rI_i z, rI_i z, rI_i z, rI_i z, rI_i z]
        exact K3 i (by omega)
    · by_cases z : i = c
      · subst z
        exact f3 v (by omega) hv
      · rw [f2 _ (by omega)]
        unfold rn_s
        rw [rN (by decide +kernel), rN (by decide +kernel), rN (by decide +kernel)]
        exact K4 i v (by omega) hv
/-- both nets are alike: C corners -/
def nt_N (hc hr : mx_H) (t C : Nat) : Prop := C ≤ 6 ∧ rD hc (.inr (t, 30)) 0 = C ∧ rD hr (.inl 105) 35 = C ∧ (∀ i, i < C → hc.2.1 (.inr (t, 31)) i = hr.2.1 (.inl 128) i ∧ (1 ≤ rD hr (.inl 128) i ∧ rD hr (.inl 128) i ≤ 9) ∧ hc.2.1 (.inr (t, 32)) i = hr.2.1 (.inl 129) i ∧ hc.2.1 (.inr (t, 33)) i = hr.2.1 (.inl 130) i) ∧ ∀ i j, i < C → j < C → hc.2.1 (.inr (t, 34)) (6 * i + j) = hr.2.1 (.inl 131) (6 * i + j)
end NT
