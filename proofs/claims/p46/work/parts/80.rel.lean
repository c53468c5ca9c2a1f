/-! ===== the relation over one heap; what calls leave alone ===== -/
def rt_Ml : Nat := 577961651229498020925928990410226780971905695431867431405676572619336028297247402772107701451999055439724544
def rt_Ms : Nat := 230871130056998901634447500586778987139139097288067773080429506742223632553312891682813532754167263527546380091392
def rt_Mc : Nat := 2036179309202222059277112868808520882994142222070889681478192252799531652623569515727932434055418629478631237965242742302943903748
def rt_Mr : Nat := 2174126686437554872598746616358304969449041296403156896143154441128927007364442772585577323609219661824
theorem rt_bit {m M r : Nat} (hm : m &&& M = 0) (hr : M.testBit r = true) : m.testBit r = false := by
  have e := congrArg (fun x => Nat.testBit x r) hm
  simp only [Nat.testBit_and, hr, Bool.and_true, Nat.zero_testBit] at e
  exact e
/-- both sides, each read in its own heap -/
def rt_P (hc hr : mx_H) (S N : Nat) : Prop := rs_A hc hr S N ∧ (S ≤ 11 → rs_T hc hr) ∧ ∃ V D U, rh_H hc hr S V D U
/-- what the shelves hold: nothing, a body, a row -/
def rt_S (hc hr : mx_H) (N : Nat) : Prop := ∀ s, s < 6 → (hc.2.1 (.inl 95) s = -2 ∧ hr.2.1 (.inl 163) s = -1) ∨ (hc.2.1 (.inl 95) s = -1 ∧ ∃ b : Nat, b < N ∧ rD hc (.inl 97) s = b ∧ rD hr (.inl 163) s = b) ∨ ∃ t : Nat, t ≤ 4 ∧ rD hc (.inl 95) s = t ∧ rD hr (.inl 163) s = -2 - (t : Int) ∧ hc.2.1 (.inl 96) s = hr.2.1 (.inl 164) s
def rt_R (h : mx_H) : Prop := ∃ S N, rt_P h h S N ∧ rt_S h h N ∧ rt_L h h S
section RTA
variable {h h' hc hr hc' hr' h2 h4 : mx_H} {S N m m1 m2 : Nat}
theorem rt_ec (hm : m &&& rt_Mc = 0) (e : sf_E m h h') {s : Nat} : rs_ec s h h' := fun o i ho => by
  refine e.1 (.inr (s, o)) i (rt_bit hm ?_)
  rcases (show o = 0 ∨ o = 1 ∨ o = 2 ∨ o = 3 ∨ o = 4 ∨ o = 5 ∨ o = 6 ∨ o = 7 ∨ o = 8 by omega) with t | t | t | t | t | t | t | t | t
  · subst t
    show rt_Mc.testBit (379 + i) = true
    exact (by decide +kernel : ∀ i, i < 13 → rt_Mc.testBit (379 + i) = true) i (ho.2 rfl)
  · subst t
    exact (show rt_Mc.testBit 392 = true by decide +kernel)
  · subst t
    exact (show rt_Mc.testBit 393 = true by decide +kernel)
  · subst t
    exact (show rt_Mc.testBit 394 = true by decide +kernel)
  · subst t
    exact (show rt_Mc.testBit 395 = true by decide +kernel)
  · subst t
    exact (show rt_Mc.testBit 396 = true by decide +kernel)
  · subst t
    exact (show rt_Mc.testBit 397 = true by decide +kernel)
  · subst t
    exact (show rt_Mc.testBit 398 = true by decide +kernel)
  · subst t
    exact (show rt_Mc.testBit 399 = true by decide +kernel)
theorem rt_u (hm : m &&& rt_Mc = 0) (e : sf_E m h h') : rs_u S h h' := ⟨e.2.2 (rt_bit hm (by decide +kernel)), e.2.1 (.inl 0) 3 (rt_bit (r := 425) hm (by decide +kernel)), fun i => e.2.1 (.inl 3) i (rt_bit (r := 424) hm (by decide +kernel)), fun i => e.2.1 (.inl 92) i (rt_bit (r := 427) hm (by decide +kernel)), e.1 (.inl 0) 2 (rt_bit (r := 2) hm (by decide +kernel)), e.1 (.inl 90) 0 (rt_bit (r := 202) hm (by decide +kernel)), fun i => e.1 (.inl 91) i (rt_bit (r := 207) hm (by decide +kernel)), fun _ _ => rt_ec hm e⟩
theorem rt_v (hm : m &&& rt_Mr = 0) (e : sf_El m h h') : rs_v S h h' := ⟨e 105 1 (rt_bit (r := 225) hm (by decide +kernel)), e 105 12 (rt_bit (r := 236) hm (by decide +kernel)), fun i => e 116 i (rt_bit (r := 328) hm (by decide +kernel)), fun i => e 117 i (rt_bit (r := 329) hm (by decide +kernel)), fun s _ k i w => by
  have : k = 106 ∨ k = 107 ∨ k = 108 ∨ k = 109 ∨ k = 110 ∨ k = 111 ∨ k = 112 ∨ k = 113 ∨ k = 114 ∨ k = 115 := by
    unfold rs_w at w
    omega
  rcases this with t | t | t | t | t | t | t | t | t | t
  · subst t
    exact e 106 i (rt_bit (r := 318) hm (by decide +kernel))
  · subst t
    exact e 107 i (rt_bit (r := 319) hm (by decide +kernel))
  · subst t
    exact e 108 i (rt_bit (r := 320) hm (by decide +kernel))
  · subst t
    exact e 109 i (rt_bit (r := 321) hm (by decide +kernel))
  · subst t
    exact e 110 i (rt_bit (r := 322) hm (by decide +kernel))
  · subst t
    exact e 111 i (rt_bit (r := 323) hm (by decide +kernel))
  · subst t
    exact e 112 i (rt_bit (r := 324) hm (by decide +kernel))
  · subst t
    exact e 113 i (rt_bit (r := 325) hm (by decide +kernel))
  · subst t
    exact e 114 i (rt_bit (r := 326) hm (by decide +kernel))
  · subst t
    exact e 115 i (rt_bit (r := 327) hm (by decide +kernel))⟩
/-- the tapes -/
theorem rt_T (b1 : m1.testBit 15 = false) (b2 : m1.testBit 17 = false) (e1 : sf_El m1 hc hc') (b3 : m2.testBit 240 = false) (b4 : m2.testBit 330 = false) (e2 : sf_El m2 hr hr') (T : rs_T hc hr) : rs_T hc' hr' := by
  obtain ⟨L, l, t1, t2, t3⟩ := T
  refine ⟨L, l, ?_, ?_, fun i hi => ?_⟩
  · unfold rD
    rw [e1 1 1 b1]
    exact t1
  · unfold rD
    rw [e2 105 16 b3]
    exact t2
  · unfold rD
    rw [e1 2 i b2, e2 118 i b4]
    exact t3 i hi
theorem sf_El0 (m : Nat) (h : mx_H) : sf_El m h h := fun _ _ _ => rfl
theorem rt_hr (hm : m &&& rt_Mr = 0) (e : sf_El m h h') (q i : Nat) (l1 : 123 ≤ q) (l2 : q ≤ 127) : h'.2.1 (.inl q) i = h.2.1 (.inl q) i := by
  rcases (show q = 123 ∨ q = 124 ∨ q = 125 ∨ q = 126 ∨ q = 127 by omega) with t | t | t | t | t
  · subst t
    exact e 123 i (rt_bit (r := 335) hm (by decide +kernel))
  · subst t
    exact e 124 i (rt_bit (r := 336) hm (by decide +kernel))
  · subst t
    exact e 125 i (rt_bit (r := 337) hm (by decide +kernel))
  · subst t
    exact e 126 i (rt_bit (r := 338) hm (by decide +kernel))
  · subst t
    exact e 127 i (rt_bit (r := 339) hm (by decide +kernel))
theorem rt_hc (b0 : m.testBit 190 = false) (b1 : m.testBit 191 = false) (b6 : m.testBit 198 = false) (b7 : m.testBit 199 = false) (b8 : m.testBit 200 = false) (b9 : m.testBit 201 = false) (e : sf_El m h h') (q i : Nat) (l1 : 84 ≤ q) (l2 : q ≤ 89) (l3 : q = 84 → i = 0 ∨ i = 1) (l4 : q ≠ 85) : h'.2.1 (.inl q) i = h.2.1 (.inl q) i := by
  rcases (show q = 84 ∨ q = 86 ∨ q = 87 ∨ q = 88 ∨ q = 89 by omega) with t | t | t | t | t
  · subst t
    rcases l3 rfl with t | t
    · subst t
      exact e 84 0 b0
    · subst t
      exact e 84 1 b1
  · subst t
    exact e 86 i b6
  · subst t
    exact e 87 i b7
  · subst t
    exact e 88 i b8
  · subst t
    exact e 89 i b9
/-- the reference's heap may be another -/
theorem rt_P.r (hm : m &&& rt_Mr = 0) (e : sf_El m h h') (P : rt_P hc h S N) : rt_P hc h' S N := by
  obtain ⟨A, T, V, D, U, H⟩ := P
  exact ⟨A.g rs_u.refl (rt_v hm e), fun q => rt_T (m1 := 0) rfl rfl (sf_El0 0 hc) (rt_bit (r := 240) hm (by decide +kernel)) (rt_bit (r := 330) hm (by decide +kernel)) e (T q), (rh_H.new H (Nat.le_refl _) (fun _ _ _ _ _ => rfl) (fun _ => rfl) (fun _ _ _ _ _ _ => rfl) (fun q i l1 l2 => rt_hr hm e q i l1 l2) (e 105 24 (rt_bit (r := 248) hm (by decide +kernel))) (e 105 25 (rt_bit (r := 249) hm (by decide +kernel)))).imp (fun V' H' => ⟨D, U, H'⟩)⟩
/-- the class's heap may be another -/
theorem rt_P.c (hm : m &&& rt_Mc = 0) (e : sf_E m h h') (P : rt_P h hr S N) : rt_P h' hr S N := by
  obtain ⟨A, T, V, D, U, H⟩ := P
  refine ⟨A.g (rt_u hm e) rs_v.refl, fun q => rt_T (m2 := 0) (rt_bit (r := 15) hm (by decide +kernel)) (rt_bit (r := 17) hm (by decide +kernel)) e.l rfl rfl (sf_El0 0 hr) (T q), (rh_H.new H (Nat.le_refl _) (fun _ _ => rt_ec hm e) (fun i => e.2.1 (.inl 85) i (rt_bit (r := 426) hm (by decide +kernel))) (fun q i l1 l2 l3 l4 => ?_) (fun _ _ _ _ => rfl) rfl rfl).imp (fun V' H' => ⟨D, U, H'⟩)⟩
  exact rt_hc (rt_bit (r := 190) hm (by decide +kernel)) (rt_bit (r := 191) hm (by decide +kernel)) (rt_bit (r := 198) hm (by decide +kernel)) (rt_bit (r := 199) hm (by decide +kernel)) (rt_bit (r := 200) hm (by decide +kernel)) (rt_bit (r := 201) hm (by decide +kernel)) e.l q i l1 l2 l3 l4
theorem rt_Sf {N' : Nat} (c1 : m1 &&& rt_Ms = 0) (e1 : sf_El m1 hc hc') (c2 : m2 &&& rt_Ms = 0) (e2 : sf_El m2 hr hr') (NN : N ≤ N') (K : rt_S hc hr N) : rt_S hc' hr' N' := fun s hs => by
  unfold rD
  rw [e1 95 s (rt_bit (r := 214) c1 (by decide +kernel)), e1 96 s (rt_bit (r := 215) c1 (by decide +kernel)), e1 97 s (rt_bit (r := 216) c1 (by decide +kernel)), e2 163 s (rt_bit (r := 375) c2 (by decide +kernel)), e2 164 s (rt_bit (r := 376) c2 (by decide +kernel))]
  rcases K s hs with q | ⟨q1, b, q2, q3, q4⟩ | q
  · exact Or.inl q
  · exact Or.inr (Or.inl ⟨q1, b, by omega, q3, q4⟩)
  · exact Or.inr (Or.inr q)
theorem rt_Lf {S' : Nat} (c1 : m1 &&& rt_Ml = 0) (e1 : sf_El m1 hc hc') (c2 : m2 &&& rt_Ml = 0) (e2 : sf_El m2 hr hr') (SS : S ≤ S') (sc : rh_s S hc hc') (L : rt_L hc hr S) : rt_L hc' hr' S' := by
  obtain ⟨⟨P, L0⟩, W, LW⟩ := L
  refine ⟨⟨P, L0.fx SS (fun q i l1 l2 l3 => ?_) (fun q i l1 l2 => ?_) (e2 105 51 (rt_bit (r := 275) c2 (by decide +kernel))) (e2 105 52 (rt_bit (r := 276) c2 (by decide +kernel))) sc⟩, W, LW.fx (e1 60 5 (rt_bit (r := 141) c1 (by decide +kernel))) (fun q i l1 l2 => ?_) (fun q i l1 l2 => ?_) (e2 105 56 (rt_bit (r := 280) c2 (by decide +kernel)))⟩
  · rcases (show q = 60 ∨ q = 61 ∨ q = 62 ∨ q = 63 by omega) with t | t | t | t
    · subst t
      rcases l3 rfl with t | t
      · subst t
        exact e1 60 0 (rt_bit (r := 136) c1 (by decide +kernel))
      · subst t
        exact e1 60 1 (rt_bit (r := 137) c1 (by decide +kernel))
    · subst t
      exact e1 61 i (rt_bit (r := 149) c1 (by decide +kernel))
    · subst t
      exact e1 62 i (rt_bit (r := 150) c1 (by decide +kernel))
    · subst t
      exact e1 63 i (rt_bit (r := 151) c1 (by decide +kernel))
  · rcases (show q = 140 ∨ q = 141 ∨ q = 142 by omega) with t | t | t
    · subst t
      exact e2 140 i (rt_bit (r := 352) c2 (by decide +kernel))
    · subst t
      exact e2 141 i (rt_bit (r := 353) c2 (by decide +kernel))
    · subst t
      exact e2 142 i (rt_bit (r := 354) c2 (by decide +kernel))
  · rcases (show q = 64 ∨ q = 65 ∨ q = 66 by omega) with t | t | t
    · subst t
      exact e1 64 i (rt_bit (r := 152) c1 (by decide +kernel))
    · subst t
      exact e1 65 i (rt_bit (r := 153) c1 (by decide +kernel))
    · subst t
      exact e1 66 i (rt_bit (r := 154) c1 (by decide +kernel))
  · rcases (show q = 143 ∨ q = 144 ∨ q = 145 by omega) with t | t | t
    · subst t
      exact e2 143 i (rt_bit (r := 355) c2 (by decide +kernel))
    · subst t
      exact e2 144 i (rt_bit (r := 356) c2 (by decide +kernel))
    · subst t
      exact e2 145 i (rt_bit (r := 357) c2 (by decide +kernel))
theorem rt_Lr (c2 : m2 &&& (2 ^ 275 + 2 ^ 276 + 2 ^ 280 + 2 ^ 352 + 2 ^ 353 + 2 ^ 354 + 2 ^ 355 + 2 ^ 356 + 2 ^ 357) = 0) (e2 : sf_El m2 hr hr') (L : rt_L hc hr S) : rt_L hc hr' S := by
  obtain ⟨⟨P, L0⟩, W, LW⟩ := L
  refine ⟨⟨P, L0.fx (Nat.le_refl _) (fun _ _ _ _ _ => rfl) (fun q i l1 l2 => ?_) (e2 105 51 (rt_bit (r := 275) c2 (by decide +kernel))) (e2 105 52 (rt_bit (r := 276) c2 (by decide +kernel))) (fun _ _ => ⟨rfl, fun _ => ⟨rfl, rfl⟩⟩)⟩, W, LW.fx rfl (fun _ _ _ _ => rfl) (fun q i l1 l2 => ?_) (e2 105 56 (rt_bit (r := 280) c2 (by decide +kernel)))⟩
  · rcases (show q = 140 ∨ q = 141 ∨ q = 142 by omega) with t | t | t
    · subst t
      exact e2 140 i (rt_bit (r := 352) c2 (by decide +kernel))
    · subst t
      exact e2 141 i (rt_bit (r := 353) c2 (by decide +kernel))
    · subst t
      exact e2 142 i (rt_bit (r := 354) c2 (by decide +kernel))
  · rcases (show q = 143 ∨ q = 144 ∨ q = 145 by omega) with t | t | t
    · subst t
      exact e2 143 i (rt_bit (r := 355) c2 (by decide +kernel))
    · subst t
      exact e2 144 i (rt_bit (r := 356) c2 (by decide +kernel))
    · subst t
      exact e2 145 i (rt_bit (r := 357) c2 (by decide +kernel))
theorem rt_Lc (c1 : m1 &&& (2 ^ 136 + 2 ^ 137 + 2 ^ 141 + 2 ^ 149 + 2 ^ 150 + 2 ^ 151 + 2 ^ 152 + 2 ^ 153 + 2 ^ 154) = 0) (e1 : sf_El m1 hc hc') (sc : rh_s S hc hc') (L : rt_L hc hr S) : rt_L hc' hr S := by
  obtain ⟨⟨P, L0⟩, W, LW⟩ := L
  refine ⟨⟨P, L0.fx (Nat.le_refl _) (fun q i l1 l2 l3 => ?_) (fun _ _ _ _ => rfl) rfl rfl sc⟩, W, LW.fx (e1 60 5 (rt_bit (r := 141) c1 (by decide +kernel))) (fun q i l1 l2 => ?_) (fun _ _ _ _ => rfl) rfl⟩
  · rcases (show q = 60 ∨ q = 61 ∨ q = 62 ∨ q = 63 by omega) with t | t | t | t
    · subst t
      rcases l3 rfl with t | t
      · subst t
        exact e1 60 0 (rt_bit (r := 136) c1 (by decide +kernel))
      · subst t
        exact e1 60 1 (rt_bit (r := 137) c1 (by decide +kernel))
    · subst t
      exact e1 61 i (rt_bit (r := 149) c1 (by decide +kernel))
    · subst t
      exact e1 62 i (rt_bit (r := 150) c1 (by decide +kernel))
    · subst t
      exact e1 63 i (rt_bit (r := 151) c1 (by decide +kernel))
  · rcases (show q = 64 ∨ q = 65 ∨ q = 66 by omega) with t | t | t
    · subst t
      exact e1 64 i (rt_bit (r := 152) c1 (by decide +kernel))
    · subst t
      exact e1 65 i (rt_bit (r := 153) c1 (by decide +kernel))
    · subst t
      exact e1 66 i (rt_bit (r := 154) c1 (by decide +kernel))
theorem rs_ec_s (e : ∀ s, s < S → rs_ec s h h') : rh_s S h h' := fun s hs => ⟨e s hs 0 6 (by omega), fun k => ⟨e s hs 5 k (by omega), e s hs 6 k (by omega)⟩⟩
/-- a call that touches nothing of it -/
theorem rt_f (hm : m &&& rt_Mc = 0) (hn : m &&& rt_Mr = 0) (hs : m &&& rt_Ms = 0) (hl : m &&& rt_Ml = 0) (e : sf_E m h h') (R : rt_R h) : rt_R h' := by
  obtain ⟨S, N, P, K, L⟩ := R
  exact ⟨S, N, (P.c hm e).r hn e.l, rt_Sf hs e.l hs e.l (Nat.le_refl _) K, rt_Lf hl e.l hl e.l (Nat.le_refl _) (rs_ec_s (fun _ _ => rt_ec hm e)) L⟩
/-- the relation goes through a call on both sides -/
theorem rt_go (R : rt_R h) (b1 : m1 &&& rt_Mr = 0) (e1 : sf_El m1 h h2) (b2 : m2 &&& rt_Mc = 0) (e2 : sf_E m2 h2 h4) (c1 : m1 &&& rt_Ms = 0) (c2 : m2 &&& rt_Ms = 0) (d1 : m1 &&& rt_Ml = 0) (d2 : m2 &&& rt_Ml = 0) (st : ∀ S N, rt_P h h2 S N → ∃ S' N', (S ≤ S' ∧ N ≤ N' ∧ rh_s S h h2) ∧ rt_P h2 h4 S' N') : rt_R h4 := by
  obtain ⟨S, N, P, K, L⟩ := R
  obtain ⟨S', N', ⟨SS, NN, sc⟩, P'⟩ := st S N (P.r b1 e1)
  exact ⟨S', N', P'.c b2 e2, rt_Sf c2 e2.l c2 e2.l NN (rt_Sf c1 e1 c1 e1 (Nat.le_refl _) K), rt_Lf d2 e2.l d2 e2.l (Nat.le_refl _) (rs_ec_s (fun _ _ => rt_ec b2 e2)) (rt_Lf d1 e1 d1 e1 SS sc L)⟩
/-- the shelves go through a call on both sides -/
theorem rt_goS (R : rt_R h) (b1 : m1 &&& rt_Mc = 0) (b2 : m1 &&& rt_Mr = 0) (e1 : sf_E m1 h h2) (b3 : m2 &&& rt_Mc = 0) (b4 : m2 &&& rt_Mr = 0) (e2 : sf_E m2 h2 h4) (c1 : m1 &&& (2 ^ 375 + 2 ^ 376) = 0) (c2 : m2 &&& (2 ^ 214 + 2 ^ 215 + 2 ^ 216) = 0) (d1 : m1 &&& rt_Ml = 0) (d2 : m2 &&& rt_Ml = 0) (st : ∀ S N, rs_A h h2 S N → rt_S h h2 N → rt_S h2 h4 N) : rt_R h4 := by
  obtain ⟨S, N, P, K, L⟩ := R
  have K1 : rt_S h h2 N := fun s hs => by
    unfold rD
    rw [e1.l 163 s (rt_bit (r := 375) c1 (by decide +kernel)), e1.l 164 s (rt_bit (r := 376) c1 (by decide +kernel))]
    exact K s hs
  have K2 := st S N (P.r b2 e1.l).1 K1
  refine ⟨S, N, (((P.c b1 e1).r b2 e1.l).c b3 e2).r b4 e2.l, fun s hs => ?_, rt_Lf d2 e2.l d2 e2.l (Nat.le_refl _) (rs_ec_s (fun _ _ => rt_ec b3 e2)) (rt_Lf d1 e1.l d1 e1.l (Nat.le_refl _) (rs_ec_s (fun _ _ => rt_ec b1 e1)) L)⟩
  unfold rD
  rw [e2.l 95 s (rt_bit (r := 214) c2 (by decide +kernel)), e2.l 96 s (rt_bit (r := 215) c2 (by decide +kernel)), e2.l 97 s (rt_bit (r := 216) c2 (by decide +kernel))]
  exact K2 s hs
/-- the lists go through a call on both sides -/
theorem rt_goL (R : rt_R h) (b1 : m1 &&& rt_Mc = 0) (b2 : m1 &&& rt_Mr = 0) (e1 : sf_E m1 h h2) (b3 : m2 &&& rt_Mc = 0) (b4 : m2 &&& rt_Mr = 0) (e2 : sf_E m2 h2 h4) (c1 : m1 &&& rt_Ms = 0) (c2 : m2 &&& rt_Ms = 0) (d1 : m1 &&& (2 ^ 275 + 2 ^ 276 + 2 ^ 280 + 2 ^ 352 + 2 ^ 353 + 2 ^ 354 + 2 ^ 355 + 2 ^ 356 + 2 ^ 357) = 0) (d2 : m2 &&& (2 ^ 136 + 2 ^ 137 + 2 ^ 141 + 2 ^ 149 + 2 ^ 150 + 2 ^ 151 + 2 ^ 152 + 2 ^ 153 + 2 ^ 154) = 0) (st : ∀ S N, rs_A h h2 S N → rt_L h h2 S → rt_L h2 h4 S) : rt_R h4 := by
  obtain ⟨S, N, P, K, L⟩ := R
  have z0 : (0 : Nat) &&& rt_Ml = 0 := by decide +kernel
  have L1 : rt_L h h2 S := rt_Lr d1 e1.l L
  have L2 := st S N (P.r b2 e1.l).1 L1
  exact ⟨S, N, (((P.c b1 e1).r b2 e1.l).c b3 e2).r b4 e2.l, rt_Sf c2 e2.l c2 e2.l (Nat.le_refl _) (rt_Sf c1 e1.l c1 e1.l (Nat.le_refl _) K), rt_Lc d2 e2.l (rs_ec_s (fun _ _ => rt_ec b3 e2)) L2⟩
end RTA
/-! ===== the calls that touch it ===== -/
section RTB
variable {h hc hr h2 h4 : mx_H} {S N m1 m2 : Nat} {a1 a2 a3 a4 : Int32}
/-- what the bounds say of the reference's heap -/
theorem sf_b (hI : sf_I h) (a : mx_A) (i : Nat) : (sf_bd a i).1 ≤ (h.2.1 a i).toInt ∧ (h.2.1 a i).toInt ≤ (sf_bd a i).2 := hI.1 a i
theorem sf_110 (hI : sf_I h) (i : Nat) : h.2.1 (.inl 110) i = 0 ∨ h.2.1 (.inl 110) i = 1 := by
  obtain ⟨b1, b2⟩ := sf_rd (lo := 0) (hi := 1) (r := 322) hI (.inl 110) i rfl (by decide +kernel)
  rcases (show (h.2.1 (.inl 110) i).toInt = 0 ∨ (h.2.1 (.inl 110) i).toInt = 1 by omega) with t | t
  · exact Or.inl (i_eq t k_0 rfl)
  · exact Or.inr (i_eq t k_1 rfl)
theorem sf_113 (hI : sf_I h) (i : Nat) : 0 ≤ rD h (.inl 113) i := (sf_rd (lo := 0) (hi := 201) (r := 325) hI (.inl 113) i rfl (by decide +kernel)).1
theorem sf_9 (hI : sf_I h) : rb_9 h := fun i => ⟨sf_rd (lo := 0) (hi := 9) (r := 323) hI (.inl 111) i rfl (by decide +kernel), sf_rd (lo := 0) (hi := 9) (r := 324) hI (.inl 112) i rfl (by decide +kernel)⟩
theorem sf_jfe {a : mx_A} {i r : Nat} (e : sf_rg a i = r) (hr : sf_jr r = true) : sf_jf h a i = rD h a i := by
  unfold sf_jf
  rw [e, hr]
  rfl
theorem sf_k2 (hI : sf_I h) (e : rD h (.inl 105) 1 = S) : ∀ s c : Nat, s < S → (c : Int) < rD h (.inl 106) s → 1 ≤ rD h (.inl 107) (6 * s + c) := fun s c hs hc => by
  have k := hI.2.2.2.2.1 s c
  have e1 : sf_jf h (.inl 105) 1 = rD h (.inl 105) 1 := sf_jfe (r := 225) rfl (by decide +kernel)
  have e2 : sf_jf h (.inl 106) s = rD h (.inl 106) s := sf_jfe (r := 318) rfl (by decide +kernel)
  have e3 : sf_jf h (.inl 107) (6 * s + c) = rD h (.inl 107) (6 * s + c) := sf_jfe (r := 319) rfl (by decide +kernel)
  rw [e1, e2, e3] at k
  exact k (by omega) hc
theorem sf_k3 (hI : sf_I h) (e : rD h (.inl 105) 1 = S) : ∀ p : Nat, p < 36 * S → 0 < rD h (.inl 113) p → 1 ≤ rD h (.inl 111) p := fun p hp hq => by
  have k := hI.2.2.2.2.2.1 p
  have e1 : sf_jf h (.inl 105) 1 = rD h (.inl 105) 1 := sf_jfe (r := 225) rfl (by decide +kernel)
  have e2 : sf_jf h (.inl 113) p = rD h (.inl 113) p := sf_jfe (r := 325) rfl (by decide +kernel)
  have e3 : sf_jf h (.inl 111) p = rD h (.inl 111) p := sf_jfe (r := 323) rfl (by decide +kernel)
  rw [e1, e2, e3] at k
  exact k (by omega) hq
theorem st_feed (P : rt_P hc hr S N) (b1 : m1.testBit 190 = false ∧ m1.testBit 191 = false ∧ m1.testBit 198 = false ∧ m1.testBit 199 = false ∧ m1.testBit 200 = false ∧ m1.testBit 201 = false ∧ m1.testBit 426 = false) (e1 : sf_E m1 hc (f102 a1 a2 hc).2) (bc : m1 &&& (rt_Mc - 2 ^ 15 - 2 ^ 17) = 0) (e2 : sf_El m2 hr (f184 a1 a2 hr).2) (br : m2 &&& (rt_Mr - 2 ^ 240 - 2 ^ 330) = 0) : ∃ S' N', (S ≤ S' ∧ N ≤ N' ∧ rh_s S hc (f102 a1 a2 hc).2) ∧ rt_P (f102 a1 a2 hc).2 (f184 a1 a2 hr).2 S' N' := by
  obtain ⟨A, T, V, D, U, H⟩ := P
  obtain ⟨z1, z2⟩ := rs_feed (a1 := a1) (a2 := a2) A T
  obtain ⟨b0, b1, b6, b7, b8, b9, b5⟩ := b1
  have ec : ∀ s, s < S → rs_ec s hc (f102 a1 a2 hc).2 := fun s _ o i ho => by
    refine e1.1 (.inr (s, o)) i (rt_bit bc ?_)
    rcases (show o = 0 ∨ o = 1 ∨ o = 2 ∨ o = 3 ∨ o = 4 ∨ o = 5 ∨ o = 6 ∨ o = 7 ∨ o = 8 by omega) with t | t | t | t | t | t | t | t | t
    · subst t
      show (rt_Mc - 2 ^ 15 - 2 ^ 17).testBit (379 + i) = true
      exact (by decide +kernel : ∀ i, i < 13 → (rt_Mc - 2 ^ 15 - 2 ^ 17).testBit (379 + i) = true) i (ho.2 rfl)
    · subst t
      exact (show (rt_Mc - 2 ^ 15 - 2 ^ 17).testBit 392 = true by decide +kernel)
    · subst t
      exact (show (rt_Mc - 2 ^ 15 - 2 ^ 17).testBit 393 = true by decide +kernel)
    · subst t
      exact (show (rt_Mc - 2 ^ 15 - 2 ^ 17).testBit 394 = true by decide +kernel)
    · subst t
      exact (show (rt_Mc - 2 ^ 15 - 2 ^ 17).testBit 395 = true by decide +kernel)
    · subst t
      exact (show (rt_Mc - 2 ^ 15 - 2 ^ 17).testBit 396 = true by decide +kernel)
    · subst t
      exact (show (rt_Mc - 2 ^ 15 - 2 ^ 17).testBit 397 = true by decide +kernel)
    · subst t
      exact (show (rt_Mc - 2 ^ 15 - 2 ^ 17).testBit 398 = true by decide +kernel)
    · subst t
      exact (show (rt_Mc - 2 ^ 15 - 2 ^ 17).testBit 399 = true by decide +kernel)
  refine ⟨S, N, ⟨Nat.le_refl _, Nat.le_refl _, rs_ec_s ec⟩, z1, fun q => (z2 q).1, (rh_H.new H (Nat.le_refl _) ec (fun i => e1.2.1 (.inl 85) i b5) (fun q i l1 l2 l3 l4 => rt_hc b0 b1 b6 b7 b8 b9 e1.l q i l1 l2 l3 l4) (fun q i l1 l2 => ?_) (e2 105 24 (rt_bit (r := 248) br (by decide +kernel))) (e2 105 25 (rt_bit (r := 249) br (by decide +kernel)))).imp (fun V' H' => ⟨D, U, H'⟩)⟩
  rcases (show q = 123 ∨ q = 124 ∨ q = 125 ∨ q = 126 ∨ q = 127 by omega) with t | t | t | t | t
  · subst t
    exact e2 123 i (rt_bit (r := 335) br (by decide +kernel))
  · subst t
    exact e2 124 i (rt_bit (r := 336) br (by decide +kernel))
  · subst t
    exact e2 125 i (rt_bit (r := 337) br (by decide +kernel))
  · subst t
    exact e2 126 i (rt_bit (r := 338) br (by decide +kernel))
  · subst t
    exact e2 127 i (rt_bit (r := 339) br (by decide +kernel))
/-- what a call must leave alone of the histories where shapes or bodies come -/
def rt_hk (m1 m2 : Nat) : Bool := !m1.testBit 190 && (!m1.testBit 191 && (!m1.testBit 198 && (!m1.testBit 199 && (!m1.testBit 200 && (!m1.testBit 201 && (!m2.testBit 248 && (!m2.testBit 249 && (!m2.testBit 335 && (!m2.testBit 336 && (!m2.testBit 337 && (!m2.testBit 338 && !m2.testBit 339)))))))))))
theorem rt_hn {S' D U : Nat} {V : Nat → Nat → Nat → Int} {hc' hr' : mx_H} (k : rt_hk m1 m2 = true) (e1 : sf_El m1 hc hc') (e2 : sf_El m2 hr hr') (ec : ∀ s, s < S → rs_ec s hc hc') (p85 : ∀ i, hc'.2.2.2 (.inl 85) i = hc.2.2.2 (.inl 85) i) (SS : S ≤ S') (H : rh_H hc hr S V D U) : ∃ V' D' U', rh_H hc' hr' S' V' D' U' := by
  unfold rt_hk at k
  simp only [Bool.and_eq_true, Bool.not_eq_true'] at k
  obtain ⟨k1, k2, k3, k4, k5, k6, k7, k8, k9, k10, k11, k12, k13⟩ := k
  refine (rh_H.new H SS ec p85 (fun q i l1 l2 l3 l4 => rt_hc k1 k2 k3 k4 k5 k6 e1 q i l1 l2 l3 l4) (fun q i l1 l2 => ?_) (e2 105 24 k7) (e2 105 25 k8)).imp (fun V' H' => ⟨D, U, H'⟩)
  rcases (show q = 123 ∨ q = 124 ∨ q = 125 ∨ q = 126 ∨ q = 127 by omega) with t | t | t | t | t
  · subst t
    exact e2 123 i k9
  · subst t
    exact e2 124 i k10
  · subst t
    exact e2 125 i k11
  · subst t
    exact e2 126 i k12
  · subst t
    exact e2 127 i k13
theorem st_shape (I : sf_I hc) (I2 : sf_I (f103 hc).2) (P : rt_P hc hr S N) (k : rt_hk m1 m2 = true) (e1 : sf_El m1 hc (f103 hc).2) (e2 : sf_El m2 hr (f194 hr).2) : ∃ S' N', (S ≤ S' ∧ N ≤ N' ∧ rh_s S hc (f103 hc).2) ∧ rt_P (f103 hc).2 (f194 hr).2 S' N' := by
  obtain ⟨A, T, V, D, U, H⟩ := P
  obtain ⟨S', N', z1, z2, z3, z4, z5⟩ := rs_shape A T (sf_rd (lo := 0) (hi := 120) (r := 15) I (.inl 1) 1 rfl (by decide +kernel)) (fun i => sf_rd (lo := 0) (hi := 255) (r := 17) I (.inl 2) i rfl (by decide +kernel)) (fun k => (sf_rd (lo := 0) (hi := 9) (r := 398) I2 (.inr (S, 7)) k rfl (by decide +kernel)).1)
  exact ⟨S', N', ⟨z1.1, z1.2, rs_ec_s z4⟩, z2, z3, rt_hn k e1 e2 z4 z5 z1.1 H⟩
theorem st_join (I : sf_I hr) (P : rt_P hc hr S N) (k : rt_hk m1 m2 = true) (b1 : m1.testBit 15 = false) (b2 : m1.testBit 17 = false) (b3 : m2.testBit 240 = false) (b4 : m2.testBit 330 = false) (e1 : sf_El m1 hc (f142 a1 a2 a3 a4 hc).2) (e2 : sf_El m2 hr (f280 a1 a2 a3 a4 hr).2) : (f142 a1 a2 a3 a4 hc).1 = (f280 a1 a2 a3 a4 hr).1 ∧ ∃ S' N', (S ≤ S' ∧ N ≤ N' ∧ rh_s S hc (f142 a1 a2 a3 a4 hc).2) ∧ rt_P (f142 a1 a2 a3 a4 hc).2 (f280 a1 a2 a3 a4 hr).2 S' N' := by
  obtain ⟨A, T, V, D, U, H⟩ := P
  obtain ⟨z0, S', N', z1, z2, z4, z5⟩ := rs_join (a1 := a1) (a2 := a2) (a3 := a3) (a4 := a4) A (sf_113 I) (sf_110 I)
  exact ⟨z0, S', N', ⟨z1.1, z1.2, rs_ec_s z4⟩, z2, fun q => rt_T b1 b2 e1 b3 b4 e2 (T (by omega)), rt_hn k e1 e2 z4 z5 z1.1 H⟩
theorem st_body (P : rt_P hc hr S N) (k : rt_hk m1 m2 = true) (b1 : m1.testBit 15 = false) (b2 : m1.testBit 17 = false) (b3 : m2.testBit 240 = false) (b4 : m2.testBit 330 = false) (b5 : m1.testBit 426 = false) (bc : m1 &&& (rt_Mc - 2 ^ 202 - 2 ^ 207 - 2 ^ 427) = 0) (e1 : sf_E m1 hc (f147 a1 hc).2) (e2 : sf_El m2 hr (f285 a1 hr).2) : (f147 a1 hc).1 = (f285 a1 hr).1 ∧ ∃ S' N', (S ≤ S' ∧ N ≤ N' ∧ rh_s S hc (f147 a1 hc).2) ∧ rt_P (f147 a1 hc).2 (f285 a1 hr).2 S' N' := by
  obtain ⟨A, T, V, D, U, H⟩ := P
  obtain ⟨z0, N', zn, z2⟩ := rs_body (a := a1) A
  refine (show (∀ s, s < S → rs_ec s hc (f147 a1 hc).2) → _ from fun ec => ⟨z0, S, N', ⟨Nat.le_refl _, zn, rs_ec_s ec⟩, z2, fun q => rt_T b1 b2 e1.l b3 b4 e2 (T q), rt_hn k e1.l e2 ec (fun i => e1.2.1 (.inl 85) i b5) (Nat.le_refl _) H⟩) (fun s _ o i ho => ?_)
  refine e1.1 (.inr (s, o)) i (rt_bit bc ?_)
  rcases (show o = 0 ∨ o = 1 ∨ o = 2 ∨ o = 3 ∨ o = 4 ∨ o = 5 ∨ o = 6 ∨ o = 7 ∨ o = 8 by omega) with t | t | t | t | t | t | t | t | t
  · subst t
    show (rt_Mc - 2 ^ 202 - 2 ^ 207 - 2 ^ 427).testBit (379 + i) = true
    exact (by decide +kernel : ∀ i, i < 13 → (rt_Mc - 2 ^ 202 - 2 ^ 207 - 2 ^ 427).testBit (379 + i) = true) i (ho.2 rfl)
  · subst t
    exact (show (rt_Mc - 2 ^ 202 - 2 ^ 207 - 2 ^ 427).testBit 392 = true by decide +kernel)
  · subst t
    exact (show (rt_Mc - 2 ^ 202 - 2 ^ 207 - 2 ^ 427).testBit 393 = true by decide +kernel)
  · subst t
    exact (show (rt_Mc - 2 ^ 202 - 2 ^ 207 - 2 ^ 427).testBit 394 = true by decide +kernel)
  · subst t
    exact (show (rt_Mc - 2 ^ 202 - 2 ^ 207 - 2 ^ 427).testBit 395 = true by decide +kernel)
  · subst t
    exact (show (rt_Mc - 2 ^ 202 - 2 ^ 207 - 2 ^ 427).testBit 396 = true by decide +kernel)
  · subst t
    exact (show (rt_Mc - 2 ^ 202 - 2 ^ 207 - 2 ^ 427).testBit 397 = true by decide +kernel)
  · subst t
    exact (show (rt_Mc - 2 ^ 202 - 2 ^ 207 - 2 ^ 427).testBit 398 = true by decide +kernel)
  · subst t
    exact (show (rt_Mc - 2 ^ 202 - 2 ^ 207 - 2 ^ 427).testBit 399 = true by decide +kernel)
theorem st_put (I : sf_I hr) (P : rt_P hc hr S N) (b1 : m1.testBit 15 = false) (b2 : m1.testBit 17 = false) (b3 : m2.testBit 240 = false) (b4 : m2.testBit 330 = false) (b5 : m1.testBit 385 = false) (b6 : m1.testBit 396 = false) (b7 : m1.testBit 397 = false) (e1 : sf_E m1 hc (f106 a1 a2 a3 a4 hc).2) (e2 : sf_El m2 hr (f201 a1 a2 a3 a4 hr).2) : (f106 a1 a2 a3 a4 hc).1 = (f201 a1 a2 a3 a4 hr).1 ∧ ∃ S' N', (S ≤ S' ∧ N ≤ N' ∧ rh_s S hc (f106 a1 a2 a3 a4 hc).2) ∧ rt_P (f106 a1 a2 a3 a4 hc).2 (f201 a1 a2 a3 a4 hr).2 S' N' := by
  obtain ⟨A, T, V, D, U, H⟩ := P
  obtain ⟨z0, z1, z2⟩ := rs_put (a1 := a1) (a2 := a2) (a3 := a3) (a4 := a4) A H (sf_110 I)
  exact ⟨z0, S, N, ⟨Nat.le_refl _, Nat.le_refl _, fun s _ => ⟨e1.1 (.inr (s, 0)) 6 b5, fun k => ⟨e1.1 (.inr (s, 5)) k b6, e1.1 (.inr (s, 6)) k b7⟩⟩⟩, z1, fun q => rt_T b1 b2 e1.l b3 b4 e2 (T q), z2⟩
theorem st_crack (I : sf_I hr) (P : rt_P hc hr S N) (b1 : m1.testBit 15 = false) (b2 : m1.testBit 17 = false) (b3 : m2.testBit 240 = false) (b4 : m2.testBit 330 = false) (b5 : m1.testBit 385 = false) (b6 : m1.testBit 396 = false) (b7 : m1.testBit 397 = false) (e1 : sf_E m1 hc (f107 a1 a2 a3 a4 hc).2) (e2 : sf_El m2 hr (f202 a1 a2 a3 a4 hr).2) : (f107 a1 a2 a3 a4 hc).1 = (f202 a1 a2 a3 a4 hr).1 ∧ ∃ S' N', (S ≤ S' ∧ N ≤ N' ∧ rh_s S hc (f107 a1 a2 a3 a4 hc).2) ∧ rt_P (f107 a1 a2 a3 a4 hc).2 (f202 a1 a2 a3 a4 hr).2 S' N' := by
  obtain ⟨A, T, V, D, U, H⟩ := P
  obtain ⟨z0, z1, z2⟩ := rs_crack (a1 := a1) (a2 := a2) (a3 := a3) (a4 := a4) A H (sf_9 I)
  exact ⟨z0, S, N, ⟨Nat.le_refl _, Nat.le_refl _, fun s _ => ⟨e1.1 (.inr (s, 0)) 6 b5, fun k => ⟨e1.1 (.inr (s, 5)) k b6, e1.1 (.inr (s, 6)) k b7⟩⟩⟩, z1, fun q => rt_T b1 b2 e1.l b3 b4 e2 (T q), z2⟩
theorem st_stroke (I : sf_I hr) (P : rt_P hc hr S N) (b1 : m1.testBit 15 = false) (b2 : m1.testBit 17 = false) (b3 : m2.testBit 240 = false) (b4 : m2.testBit 330 = false) (b5 : m1.testBit 385 = false) (b6 : m1.testBit 396 = false) (b7 : m1.testBit 397 = false) (e1 : sf_E m1 hc (f108 a1 a2 a3 hc).2) (e2 : sf_El m2 hr (f203 a1 a2 a3 hr).2) : (f108 a1 a2 a3 hc).1 = (f203 a1 a2 a3 hr).1 ∧ ∃ S' N', (S ≤ S' ∧ N ≤ N' ∧ rh_s S hc (f108 a1 a2 a3 hc).2) ∧ rt_P (f108 a1 a2 a3 hc).2 (f203 a1 a2 a3 hr).2 S' N' := by
  obtain ⟨A, T, V, D, U, H⟩ := P
  obtain ⟨z0, z1, z2⟩ := rs_stroke (a1 := a1) (a2 := a2) (a3 := a3) A H (sf_9 I) (sf_k2 I A.2.2.2.1) (sf_k3 I A.2.2.2.1)
  exact ⟨z0, S, N, ⟨Nat.le_refl _, Nat.le_refl _, fun s _ => ⟨e1.1 (.inr (s, 0)) 6 b5, fun k => ⟨e1.1 (.inr (s, 5)) k b6, e1.1 (.inr (s, 6)) k b7⟩⟩⟩, z1, fun q => rt_T b1 b2 e1.l b3 b4 e2 (T q), z2⟩
theorem st_undo (P : rt_P hc hr S N) (b1 : m1.testBit 15 = false) (b2 : m1.testBit 17 = false) (b3 : m2.testBit 240 = false) (b4 : m2.testBit 330 = false) (b5 : m1.testBit 385 = false) (b6 : m1.testBit 396 = false) (b7 : m1.testBit 397 = false) (e1 : sf_E m1 hc (f144 hc).2) (e2 : sf_El m2 hr (f204 hr).2) : (f144 hc).1 = (f204 hr).1 ∧ ∃ S' N', (S ≤ S' ∧ N ≤ N' ∧ rh_s S hc (f144 hc).2) ∧ rt_P (f144 hc).2 (f204 hr).2 S' N' := by
  obtain ⟨A, T, V, D, U, H⟩ := P
  obtain ⟨z0, z1, z2⟩ := rs_undo A H
  exact ⟨z0, S, N, ⟨Nat.le_refl _, Nat.le_refl _, fun s _ => ⟨e1.1 (.inr (s, 0)) 6 b5, fun k => ⟨e1.1 (.inr (s, 5)) k b6, e1.1 (.inr (s, 6)) k b7⟩⟩⟩, z1, fun q => rt_T b1 b2 e1.l b3 b4 e2 (T q), z2⟩
theorem st_redo (P : rt_P hc hr S N) (b1 : m1.testBit 15 = false) (b2 : m1.testBit 17 = false) (b3 : m2.testBit 240 = false) (b4 : m2.testBit 330 = false) (b5 : m1.testBit 385 = false) (b6 : m1.testBit 396 = false) (b7 : m1.testBit 397 = false) (e1 : sf_E m1 hc (f145 hc).2) (e2 : sf_El m2 hr (f205 hr).2) : (f145 hc).1 = (f205 hr).1 ∧ ∃ S' N', (S ≤ S' ∧ N ≤ N' ∧ rh_s S hc (f145 hc).2) ∧ rt_P (f145 hc).2 (f205 hr).2 S' N' := by
  obtain ⟨A, T, V, D, U, H⟩ := P
  obtain ⟨z0, z1, z2⟩ := rs_redo A H
  exact ⟨z0, S, N, ⟨Nat.le_refl _, Nat.le_refl _, fun s _ => ⟨e1.1 (.inr (s, 0)) 6 b5, fun k => ⟨e1.1 (.inr (s, 5)) k b6, e1.1 (.inr (s, 6)) k b7⟩⟩⟩, z1, fun q => rt_T b1 b2 e1.l b3 b4 e2 (T q), z2⟩
end RTB
set_option maxRecDepth 1000000 in
theorem rt_00 : sp_hN.2.1 (.inl 0) 2 = 0 ∧ sp_hN.2.1 (.inl 105) 1 = 0 ∧ sp_hN.2.1 (.inl 90) 0 = 0 ∧ sp_hN.2.1 (.inl 105) 12 = 0 ∧ sp_hN.1 = 167 ∧ sp_hN.2.2.2 (.inl 0) 3 = some (.inr (0, 0)) ∧ sp_hN.2.1 (.inl 1) 1 = 0 ∧ sp_hN.2.1 (.inl 105) 16 = 0 ∧ sp_hN.2.1 (.inl 84) 0 = 0 ∧ sp_hN.2.1 (.inl 84) 1 = 0 ∧ sp_hN.2.1 (.inl 105) 24 = 0 ∧ sp_hN.2.1 (.inl 105) 25 = 0 ∧ sp_hN.2.1 (.inl 60) 1 = 0 ∧ sp_hN.2.1 (.inl 60) 5 = 0 ∧ sp_hN.2.1 (.inl 105) 51 = 0 ∧ sp_hN.2.1 (.inl 105) 56 = 0 ∧ ∀ s, s < 6 → sp_hN.2.1 (.inl 95) s = -2 ∧ sp_hN.2.1 (.inl 163) s = -1 := by decide +kernel
theorem rt_0 : rt_R sp_hN := by
  obtain ⟨n1, n2, n3, n4, n5, n6, n7, n8, n9, n10, n11, n12, m1, m2, m3, m4, n13⟩ := rt_00
  refine ⟨0, 0, ⟨⟨by decide +kernel, by decide +kernel, ?_, ?_, ?_, ?_, n5, n6, fun s hs => absurd hs (Nat.not_lt_zero _), fun b hb => absurd hb (Nat.not_lt_zero _)⟩, fun _ => ⟨0, by decide +kernel, ?_, ?_, fun i hi => absurd hi (Nat.not_lt_zero _)⟩, fun _ _ _ => 0, 0, 0, ?_, ?_, ?_, ?_, by decide +kernel, fun s k hs => absurd hs (Nat.not_lt_zero _), fun j hj => absurd hj (Nat.not_lt_zero _)⟩, fun s hs => Or.inl (n13 s hs), ⟨0, by decide +kernel, by unfold rD; rw [m1]; rfl, by unfold rD; rw [m3]; rfl, fun z => absurd z (Nat.lt_irrefl 0)⟩, 0, by decide +kernel, by unfold rD; rw [m2]; rfl, by unfold rD; rw [m4]; rfl, fun j hj => absurd hj (Nat.not_lt_zero _)⟩
  · unfold rD
    rw [n1]
    rfl
  · unfold rD
    rw [n2]
    rfl
  · unfold rD
    rw [n3]
    rfl
  · unfold rD
    rw [n4]
    rfl
  · unfold rD
    rw [n7]
    rfl
  · unfold rD
    rw [n8]
    rfl
  · unfold rD
    rw [n9]
    rfl
  · unfold rD
    rw [n10]
    rfl
  · unfold rD
    rw [n11]
    rfl
  · unfold rD
    rw [n12]
    rfl
