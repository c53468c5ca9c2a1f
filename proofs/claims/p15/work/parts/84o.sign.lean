/-! ===== sign changes and zeros of the sums; below, sums ===== -/
section ZO
variable {h g k hc hr : mx_H} {S N C t c n s F b : Nat} {a a1 a2 a3 a4 a5 x y : Int32} {l : Int64} {e : Nat → Int64} {p q : Int}
theorem lg_3 : (l = 0 ∧ lg_cmp l 0 = 0) ∨ (l ≠ 0 ∧ ¬ l < 0 ∧ lg_cmp l 0 = 1) ∨ (l ≠ 0 ∧ l < 0 ∧ lg_cmp l 0 = -1) := by
  unfold lg_cmp
  by_cases h1 : l > 0
  · have h1' := Int64.lt_iff_toInt_lt.mp h1
    refine Or.inr (Or.inl ⟨fun z => ?_, fun z => ?_, if_pos h1⟩)
    · rw [z] at h1'
      exact absurd h1' (by decide)
    · have := Int64.lt_iff_toInt_lt.mp z
      omega
  · rw [if_neg h1]
    by_cases h2 : l = 0
    · exact Or.inl ⟨h2, if_pos h2⟩
    · refine Or.inr (Or.inr ⟨h2, Int64.lt_iff_toInt_lt.mpr ?_, if_neg h2⟩)
      have h3 : ¬ (0 : Int64).toInt < l.toInt := fun z => h1 (Int64.lt_iff_toInt_lt.mpr z)
      have h4 : l.toInt ≠ (0 : Int64).toInt := fun z => h2 (Int64.toInt_inj.mp z)
      omega
/-- sign changes: how many so far, and whether the last one that isn't 0 is negative -/
def zc (e : Nat → Int64) : Nat → Nat × Bool
  | 0 => (0, false)
  | k + 1 => if e (k + 1) = 0 then zc e k else if decide (e (k + 1) < 0) = (zc e k).2 then zc e k else ((zc e k).1 + 1, !(zc e k).2)
/-- zeros at the end -/
def za (e : Nat → Int64) : Nat → Nat
  | 0 => 0
  | k + 1 => if e (k + 1) = 0 then za e k + 1 else 0
theorem zc_0 {j : Nat} (z : e (j + 1) = 0) : zc e (j + 1) = zc e j := by rw [zc, if_pos z]
theorem zc_s {j : Nat} (z : e (j + 1) ≠ 0) (d : decide (e (j + 1) < 0) = (zc e j).2) : zc e (j + 1) = zc e j := by rw [zc, if_neg z, if_pos d]
theorem zc_c {j : Nat} (z : e (j + 1) ≠ 0) (d : ¬ decide (e (j + 1) < 0) = (zc e j).2) : zc e (j + 1) = ((zc e j).1 + 1, !(zc e j).2) := by rw [zc, if_neg z, if_neg d]
theorem nI_s (m : Nat) : nI m + 1 = nI (m + 1) := by
  rw [show (1 : Int32) = nI 1 from rfl, nI_add]
theorem L31 (n6 : n ≤ 6) (hn : rD g (.inr (t, 30)) 7 = n) (hE : ∀ i, i ≤ n → g.2.2.1 (.inr (t, 35)) i = e i) : ∀ (j c : Nat) (a5 : Int32), c + j = n → a5.toInt = ((c + 1 : Nat) : Int) → g31_14 t (nI (zc e c).1) (bif (zc e c).2 then 1 else 0) a5 g = (nI (zc e n).1, g)
  | 0, c, a5, ee, h5 => by
    rw [g31_14_eq, if_pos (i_lt hn h5 (by omega)), show c = n by omega]
  | j + 1, c, a5, ee, h5 => by
    have h5' := (i_add h5 k_1 (by omega) (by omega)).trans (show ((c + 1 : Nat) : Int) + 1 = ((c + 1 + 1 : Nat) : Int) by omega)
    have ih := L31 n6 hn hE j (c + 1) (a5 + 1) (by omega) h5'
    rw [g31_14_eq, if_neg (i_nlt hn h5 (by omega)), i_cl h5, hE (c + 1) (by omega)]
    rcases lg_3 (l := e (c + 1)) with ⟨z1, z2⟩ | ⟨z1, z2, z3⟩ | ⟨z1, z2, z3⟩
    · rw [if_pos z2]
      rw [zc_0 z1] at ih
      exact ih
    · rw [if_neg (by rw [z3]; decide), if_pos (by rw [z3]; decide)]
      cases zb : (zc e c).2 with
      | false =>
        rw [zc_s z1 (by rw [zb]; exact decide_eq_false z2), zb] at ih
        exact (if_pos rfl).trans ih
      | true =>
        rw [zc_c z1 (by rw [zb, decide_eq_false z2]; decide), zb] at ih
        rw [if_neg (show ¬ (0 : Int32) = (bif true then 1 else 0) by decide), if_pos (show (bif true then (1 : Int32) else 0) ≠ 0 by decide), nI_s]
        exact ih
    · rw [if_neg (by rw [z3]; decide), if_neg (by rw [z3]; decide)]
      cases zb : (zc e c).2 with
      | true =>
        rw [zc_s z1 (by rw [zb]; exact decide_eq_true z2), zb] at ih
        exact (if_pos rfl).trans ih
      | false =>
        rw [zc_c z1 (by rw [zb, decide_eq_true z2]; decide), zb] at ih
        rw [if_neg (show ¬ (1 : Int32) = (bif false then 1 else 0) by decide), if_neg (show ¬ (bif false then (1 : Int32) else 0) ≠ 0 by decide), nI_s]
        exact ih
theorem L213 (n6 : n ≤ 6) (hn : rD g (.inl 105) 37 = n) (hE : ∀ i, i ≤ n → g.2.2.1 (.inl 133) i = e i) : ∀ (j c : Nat) (a5 : Int32), c + j = n → a5.toInt = ((c + 1 : Nat) : Int) → g213_14 (nI (zc e c).1) (bif (zc e c).2 then 0 else 1) a5 g = (nI (zc e n).1, g)
  | 0, c, a5, ee, h5 => by
    rw [g213_14_eq, if_pos (i_lt hn h5 (by omega)), show c = n by omega]
  | j + 1, c, a5, ee, h5 => by
    have h5' := (i_add h5 k_1 (by omega) (by omega)).trans (show ((c + 1 : Nat) : Int) + 1 = ((c + 1 + 1 : Nat) : Int) by omega)
    have ih := L213 n6 hn hE j (c + 1) (a5 + 1) (by omega) h5'
    rw [g213_14_eq, if_neg (i_nlt hn h5 (by omega)), i_cl h5, hE (c + 1) (by omega)]
    rcases lg_3 (l := e (c + 1)) with ⟨z1, z2⟩ | ⟨z1, z2, z3⟩ | ⟨z1, z2, z3⟩
    · rw [if_pos z2]
      rw [zc_0 z1] at ih
      exact ih
    · rw [if_neg (by rw [z3]; decide), if_neg (by rw [z3]; decide)]
      cases zb : (zc e c).2 with
      | false =>
        rw [zc_s z1 (by rw [zb]; exact decide_eq_false z2), zb] at ih
        exact (if_neg (show ¬ (1 : Int32) ≠ (bif false then 0 else 1) by decide)).trans ih
      | true =>
        rw [zc_c z1 (by rw [zb, decide_eq_false z2]; decide), zb] at ih
        rw [if_pos (show (1 : Int32) ≠ (bif true then 0 else 1) by decide), if_neg (show ¬ (bif true then (0 : Int32) else 1) ≠ 0 by decide), nI_s]
        exact ih
    · rw [if_neg (by rw [z3]; decide), if_pos (by rw [z3]; decide)]
      cases zb : (zc e c).2 with
      | true =>
        rw [zc_s z1 (by rw [zb]; exact decide_eq_true z2), zb] at ih
        exact (if_neg (show ¬ (0 : Int32) ≠ (bif true then 0 else 1) by decide)).trans ih
      | false =>
        rw [zc_c z1 (by rw [zb, decide_eq_true z2]; decide), zb] at ih
        rw [if_pos (show (0 : Int32) ≠ (bif false then 0 else 1) by decide), if_pos (show (bif false then (0 : Int32) else 1) ≠ 0 by decide), nI_s]
        exact ih
theorem za_0 {j : Nat} (z : e (j + 1) = 0) : za e (j + 1) = za e j + 1 := by rw [za, if_pos z]
theorem za_n {j : Nat} (z : ¬ e (j + 1) = 0) : za e (j + 1) = 0 := by rw [za, if_neg z]
theorem i_a0 : x + nI 0 = x := Int32.add_zero x
theorem L32 (hE : ∀ i, i ≤ n → g.2.2.1 (.inr (t, 35)) i = e i) : ∀ (c : Nat) (a3 a4 : Int32), c ≤ n → n ≤ 6 → a4.toInt = (c : Int) → g32_14 t a3 a4 g = (a3 + nI (za e c), g)
  | 0, a3, a4, _, _, h4 => by
    rw [g32_14_eq, if_pos (i_le h4 k_0 (by decide))]
    exact Prod.ext i_a0.symm rfl
  | c + 1, a3, a4, hc, n6, h4 => by
    have h4' := (i_add h4 k_m1 (by omega) (by omega)).trans (show ((c + 1 : Nat) : Int) + -1 = (c : Int) by omega)
    rw [g32_14_eq, if_neg (i_nle h4 k_0 (by omega)), i_cl h4, hE (c + 1) hc]
    rcases lg_3 (l := e (c + 1)) with ⟨z1, z2⟩ | ⟨z1, z2, z3⟩ | ⟨z1, z2, z3⟩
    · rw [if_neg (fun w => w z2), L32 hE c (a3 + 1) (a4 + -1) (by omega) n6 h4', za_0 z1, Int32.add_assoc, show (1 : Int32) = nI 1 from rfl, nI_add, Nat.add_comm]
    · rw [if_pos (by rw [z3]; decide), za_n z1]
      exact Prod.ext i_a0.symm rfl
    · rw [if_pos (by rw [z3]; decide), za_n z1]
      exact Prod.ext i_a0.symm rfl
theorem L214 (hE : ∀ i, i ≤ n → g.2.2.1 (.inl 133) i = e i) : ∀ (c : Nat) (a3 a4 : Int32), c ≤ n → n ≤ 6 → a4.toInt = (c : Int) → g214_14 a3 a4 g = (a3 + nI (za e c), g)
  | 0, a3, a4, _, _, h4 => by
    rw [g214_14_eq, if_pos (i_le h4 k_0 (by decide))]
    exact Prod.ext i_a0.symm rfl
  | c + 1, a3, a4, hc, n6, h4 => by
    have h4' := (i_add h4 k_m1 (by omega) (by omega)).trans (show ((c + 1 : Nat) : Int) + -1 = (c : Int) by omega)
    rw [g214_14_eq, if_neg (i_nle h4 k_0 (by omega)), i_cl h4, hE (c + 1) hc]
    rcases lg_3 (l := e (c + 1)) with ⟨z1, z2⟩ | ⟨z1, z2, z3⟩ | ⟨z1, z2, z3⟩
    · rw [if_neg (fun w => w z2), L214 hE c (a3 + 1) (a4 + -1) (by omega) n6 h4', za_0 z1, Int32.add_assoc, show (1 : Int32) = nI 1 from rfl, nI_add, Nat.add_comm]
    · rw [if_pos (by rw [z3]; decide), za_n z1]
      exact Prod.ext i_a0.symm rfl
    · rw [if_pos (by rw [z3]; decide), za_n z1]
      exact Prod.ext i_a0.symm rfl
/-- the sums of a net, for the marks p and q -/
def ze (k : mx_H) (C : Nat) (p q : Int) (i : Nat) : Int64 := Int64.ofInt (zE (zB (zm k (fl k C) C p q)) (fl k C).length i)
theorem S31c (N : nt_N hc k t C) (V : nt_V k C) (h1 : a1.toInt = p) (p0 : 0 ≤ p) (p9 : p ≤ 99) (h2 : a2.toInt = q) (q1 : 1 ≤ q) (q9 : q ≤ 9) : f31 t a1 a2 hc = (nI (zc (ze k C p q) (fl k C).length).1, f29 t a1 a2 hc) := by
  have C6 := N.1
  have len := fl_len (k := k) C
  obtain ⟨-, s2, -, s4⟩ := S29 N V h1 p0 p9 h2 q1 q9
  rw [f31_eq]
  exact L31 (by omega) s2 s4 (fl k C).length 0 1 (by omega) rfl
theorem S32c (N : nt_N hc k t C) (V : nt_V k C) (h1 : a1.toInt = p) (p0 : 0 ≤ p) (p9 : p ≤ 99) (h2 : a2.toInt = q) (q1 : 1 ≤ q) (q9 : q ≤ 9) : f32 t a1 a2 hc = (nI (za (ze k C p q) (fl k C).length), f29 t a1 a2 hc) := by
  have C6 := N.1
  have len := fl_len (k := k) C
  obtain ⟨-, s2, -, s4⟩ := S29 N V h1 p0 p9 h2 q1 q9
  rw [f32_eq]
  show g32_14 t 0 ((f29 t a1 a2 hc).2.1 (.inr (t, 30)) 7) (f29 t a1 a2 hc) = _
  rw [L32 s4 (fl k C).length 0 _ (Nat.le_refl _) (by omega) s2, Int32.zero_add]
  rfl
theorem S213r (hC : rD k (.inl 105) 35 = C) (C6 : C ≤ 6) (V : nt_V k C) (h1 : a1.toInt = p) (h2 : a2.toInt = q) (st : mi_S k b) (hb : b < 2147483647) : f213 a1 a2 k = (nI (zc (ze k C p q) (fl k C).length).1, f212 a1 a2 k) := by
  have len := fl_len (k := k) C
  obtain ⟨s1, s2, -, -⟩ := S212 hC C6 V h1 h2 st hb
  rw [f213_eq]
  exact L213 (by omega) s2 s1 (fl k C).length 0 1 (by omega) rfl
theorem S214r (hC : rD k (.inl 105) 35 = C) (C6 : C ≤ 6) (V : nt_V k C) (h1 : a1.toInt = p) (h2 : a2.toInt = q) (st : mi_S k b) (hb : b < 2147483647) : f214 a1 a2 k = (nI (za (ze k C p q) (fl k C).length), f212 a1 a2 k) := by
  have len := fl_len (k := k) C
  obtain ⟨s1, s2, -, -⟩ := S212 hC C6 V h1 h2 st hb
  rw [f214_eq]
  show g214_14 0 ((f212 a1 a2 k).2.1 (.inl 105) 37) (f212 a1 a2 k) = _
  rw [L214 s1 (fl k C).length 0 _ (Nat.le_refl _) (by omega) s2, Int32.zero_add]
  rfl
/-- a mark -/
theorem mk_in : (f158 a = 0 ∧ f215 a = 0) ∨ (f158 a = 1 ∧ f215 a = 1 ∧ ∃ p q : Int, (a / 10).toInt = p ∧ (a - a / 10 * 10).toInt = q ∧ (0 ≤ p ∧ p ≤ 99) ∧ 1 ≤ q ∧ q ≤ 9) := by
  have k999 : (999 : Int32).toInt = 999 := rfl
  rw [f158_eq, f215_eq]
  by_cases r : 0 ≤ a.toInt ∧ a.toInt ≤ 999
  · have ha : a.toInt = ((a.toInt.toNat : Nat) : Int) := by omega
    generalize a.toInt.toNat = m at ha
    obtain ⟨d1, d2⟩ := i_ten ha
    rw [w173_1 ha k_0 k999 (by omega), if_neg n10]
    by_cases z : m % 10 = 0
    · refine Or.inl ⟨?_, if_pos (i_le d2 k_0 (by omega))⟩
      by_cases z0 : m = 0
      · rw [w157_0 ha k_1 k999 (by omega), if_pos rfl]
      · rw [w157_1 ha k_1 k999 (by omega), if_neg n10, if_pos (i_eq d2 k_0 (by omega))]
    · refine Or.inr ⟨?_, if_neg (i_nle d2 k_0 (by omega)), _, _, d1, d2, by omega, by omega⟩
      rw [w157_1 ha k_1 k999 (by omega), if_neg n10, if_neg (i_ne d2 k_0 (by omega))]
  · refine Or.inl ⟨?_, ?_⟩
    · rw [w157_0 rfl k_1 k999 (by omega), if_pos rfl]
    · rw [w173_0 rfl k_0 k999 (by omega), if_pos rfl]
/-- a shape's net is small and alike both ways -/
theorem nt_take (I : sf_I hr) (e1 : rD hr (.inl 105) 1 = S) (hs : s < S) (s12 : S ≤ 12) (N200 : N ≤ 200) (Ds : rs_D hc hr N s C n F) (h1 : a1.toInt = (s : Int)) : nt_V (f208 a1 hr) C := by
  obtain ⟨NN, K, R, R3, R4⟩ := nt_load (t := 0) I e1 hs s12 N200 Ds h1 rfl
  obtain ⟨c1, c6, fn, d1, d2, d3, d4, d5, d6, d7, d8, d9, d10⟩ := id Ds
  have b9 := sf_9 I
  have ln : ∀ i j, i < C → j < C → (rn_l hr s i j = 0 ∧ rn_l hr s j i = 0) ∨ ∃ v : Int32, rn_l hr s i j = v ∧ rn_l hr s j i = v ∧ 0 ≤ v.toInt ∧ v.toInt ≤ 9 := fun i j hi hj => by
    rcases d8 i j (by omega) (by omega) with w | ⟨m, hm, w⟩
    · have z : rD hr (.inl 113) (36 * s + 6 * i + j) = 0 := congrArg Int32.toInt w
      refine Or.inl ⟨if_neg (by omega), ?_⟩
      rcases d8 j i (by omega) (by omega) with w2 | ⟨m, hm, w2⟩
      · have z2 : rD hr (.inl 113) (36 * s + 6 * j + i) = 0 := congrArg Int32.toInt w2
        exact if_neg (by omega)
      · rcases w2 with ⟨p1, p2, p3, p4, p5, p6, p7, -⟩ | ⟨p1, p2, p3, p4, p5, p6, p7, -⟩
        · omega
        · omega
    · refine Or.inr ⟨hc.2.1 (.inr (s, 7)) m - hc.2.1 (.inr (s, 8)) m, ?_⟩
      have fin : ∀ u v, rs_k hc hr s C F m u v → rn_l hr s u v = hc.2.1 (.inr (s, 7)) m - hc.2.1 (.inr (s, 8)) m ∧ rn_l hr s v u = hc.2.1 (.inr (s, 7)) m - hc.2.1 (.inr (s, 8)) m ∧ 0 ≤ (hc.2.1 (.inr (s, 7)) m - hc.2.1 (.inr (s, 8)) m).toInt ∧ (hc.2.1 (.inr (s, 7)) m - hc.2.1 (.inr (s, 8)) m).toInt ≤ 9 := fun u v w => by
        obtain ⟨o1, o2, o3, o4, o5, o6, o7, o8, o9, o10, o11, o12, o13⟩ := w
        obtain ⟨⟨x1, x2⟩, x3, x4⟩ := b9 (36 * s + 6 * u + v)
        unfold rD at x1 x2 x3 x4
        rw [o8] at x1 x2
        rw [o10] at x3 x4
        have o13' : (hc.2.1 (.inr (s, 8)) m).toInt ≤ (hc.2.1 (.inr (s, 7)) m).toInt := o13
        have sb := i_sub (x := hc.2.1 (.inr (s, 7)) m) (y := hc.2.1 (.inr (s, 8)) m) rfl rfl (by omega) (by omega)
        unfold rn_l
        rw [if_pos (by omega), if_pos (by omega), o8, o9, o10, o11, sb]
        exact ⟨rfl, rfl, by omega, by omega⟩
      rcases w with w | w
      · exact fin i j w
      · obtain ⟨y1, y2, y3⟩ := fin j i w
        exact ⟨y2, y1, y3⟩
  refine ⟨fun i hi => ⟨?_, (NN.2.2.2.1 i hi).2.1⟩, fun i j hi hj => ?_⟩
  · unfold rD
    rw [(R3 i hi).2.1]
    exact sf_rd (lo := 0) (hi := 9) (r := 320) I (.inl 108) (6 * s + i) rfl (by decide)
  · unfold rD
    rw [R4 i j hi hj, R4 j i hj hi]
    rcases ln i j hi hj with ⟨z1, z2⟩ | ⟨v, z1, z2, z3, z4⟩
    · rw [z1, z2]
      exact ⟨by decide, rfl⟩
    · rw [z1, z2]
      exact ⟨⟨z3, z4⟩, rfl⟩
theorem mi_Sf (e1 : ∀ i, g.2.1 (.inl 136) i = h.2.1 (.inl 136) i) (e2 : g.2.1 (.inl 105) 42 = h.2.1 (.inl 105) 42) (st : mi_S h b) : mi_S g b := by
  unfold mi_S rD
  rw [e2]
  refine ⟨st.1, fun i => ?_⟩
  rw [e1]
  exact st.2 i
theorem rn_Fs (R : rn_F h g) (st : mi_S h b) : mi_S g b := mi_Sf (fun i => R.2.2.2 136 i (by decide) (nq (by decide))) (R.2.2.2 105 42 (by decide) (by decide)) st
theorem aw_below (I : sf_I hr) (A : rs_A hc hr S N) (st : mi_S hr b) (hb : b < 2147483647) : (f109 a1 a2 a3 hc).1 = (f216 a1 a2 a3 hr).1 := by
  obtain ⟨A1, A2, A3, A4, A5, A6, A7, A8, A9, A10⟩ := id A
  have K := f109_eq a1 a2 a3 hc
  have T := f216_eq a1 a2 a3 hr
  rcases C166 (a := a1) A with ⟨s, lt, h1, e1, e1'⟩ | ⟨e1, e1'⟩
  · obtain ⟨C, n, F, Ds⟩ := (A9 s lt).2
    rw [e1] at K
    simp only [x_opt] at K
    rw [if_neg (by rw [e1']; exact n10)] at T
    rcases mk_in (a := a2) with ⟨m1, m2⟩ | ⟨m1, m2, p, q, m3, m4, ⟨m5, m6⟩, m7, m8⟩
    · rw [if_pos m1] at K
      rw [if_pos m2] at T
      rw [K, T]
    · rw [if_neg (by rw [m1]; exact n10), w_ws] at K
      rw [if_neg (by rw [m2]; exact n10)] at T
      by_cases c3 : f173 a3 0 1 ≠ 0
      · rw [if_pos c3] at K T
        obtain ⟨NN, KF, R, R3, R4⟩ := nt_load (t := 0) I A4 lt A1 A2 Ds h1 rfl
        have V := nt_take I A4 lt A1 A2 Ds h1
        have st' := rn_Fs R st
        simp only [x_h, x_let] at K T
        rw [S32c NN V m3 m5 m6 m4 m7 m8, S31c NN V m3 m5 m6 m4 m7 m8] at K
        rw [S214r NN.2.2.1 NN.1 V m3 m4 st' hb, S213r NN.2.2.1 NN.1 V m3 m4 st' hb] at T
        rw [K, T]
        by_cases c4 : a3 ≠ 0
        · rw [if_pos c4, if_pos c4]
        · rw [if_neg c4, if_neg c4]
      · rw [if_neg c3] at K T
        rw [K, T]
  · rw [e1] at K
    simp only [x_opt] at K
    rw [if_pos e1'] at T
    rw [K, T]
/-- as many rows as tones -/
theorem fl_195 (h1 : a1.toInt = (s : Int)) (s12 : s ≤ 12) (C6 : C ≤ 6) (hC : rD hr (.inl 106) s = C) (ek : ∀ i, i < C → k.2.1 (.inl 130) i = hr.2.1 (.inl 110) (6 * s + i)) : ∀ (j c : Nat) (x a3 : Int32), c + j = C → a3.toInt = (c : Int) → x = nI (fl k c).length → g195_4 a1 x a3 hr = nI (fl k C).length
  | 0, c, x, a3, e, h3, hx => by
    rw [g195_4_eq, i_cl h1, if_pos (show hr.2.1 (.inl 106) s ≤ a3 from i_le hC h3 (by omega)), hx, show c = C by omega]
  | j + 1, c, x, a3, e, h3, hx => by
    have h3' := (i_add h3 k_1 (by omega) (by omega)).trans (show (c : Int) + 1 = ((c + 1 : Nat) : Int) by omega)
    rw [g195_4_eq, i_cl (w6 h1 h3 s12 (by omega)), i_cl h1, if_neg (show ¬ hr.2.1 (.inl 106) s ≤ a3 from i_nle hC h3 (by omega)), ← ek c (by omega)]
    by_cases z : k.2.1 (.inl 130) c = 0
    · rw [if_pos z]
      refine fl_195 h1 s12 C6 hC ek j (c + 1) _ (a3 + 1) (by omega) h3' ?_
      rw [hx, nI_s, fl, if_pos z, List.length_append]
      rfl
    · rw [if_neg z]
      refine fl_195 h1 s12 C6 hC ek j (c + 1) _ (a3 + 1) (by omega) h3' ?_
      rw [hx, fl, if_neg z]
      exact Int32.add_zero _
theorem aw_sums (I : sf_I hr) (A : rs_A hc hr S N) (st : mi_S hr b) (hb : b < 2147483647) : (f110 a1 a2 a3 hc).1 = (f217 a1 a2 a3 hr).1 := by
  obtain ⟨A1, A2, A3, A4, A5, A6, A7, A8, A9, A10⟩ := id A
  have K := f110_eq a1 a2 a3 hc
  have T := f217_eq a1 a2 a3 hr
  rcases C166 (a := a1) A with ⟨s, lt, h1, e1, e1'⟩ | ⟨e1, e1'⟩
  · obtain ⟨C, n, F, Ds⟩ := (A9 s lt).2
    rw [e1] at K
    simp only [x_opt] at K
    rw [if_neg (by rw [e1']; exact n10)] at T
    rcases mk_in (a := a2) with ⟨m1, m2⟩ | ⟨m1, m2, p, q, m3, m4, ⟨m5, m6⟩, m7, m8⟩
    · rw [if_pos m1] at K
      rw [if_pos m2] at T
      rw [K, T]
    · rw [if_neg (by rw [m1]; exact n10), w_ws, aw_tones Ds (by omega) h1] at K
      rw [if_neg (by rw [m2]; exact n10)] at T
      obtain ⟨NN, KF, R, R3, R4⟩ := nt_load (t := 0) I A4 lt A1 A2 Ds h1 rfl
      have V := nt_take I A4 lt A1 A2 Ds h1
      have st' := rn_Fs R st
      have C6 := Ds.2.1
      have len := fl_len (k := f208 a1 hr) C
      have et : f195 a1 hr = nI (fl (f208 a1 hr) C).length := by
        rw [f195_eq]
        exact fl_195 h1 (by omega) C6 Ds.2.2.2.2.1 (fun i hi => (R3 i hi).2.2) C 0 0 0 (by omega) rfl rfl
      rw [et] at K T
      by_cases c3 : 0 ≤ a3.toInt ∧ a3.toInt ≤ ((fl (f208 a1 hr) C).length : Int)
      · have ha : a3.toInt = ((a3.toInt.toNat : Nat) : Int) := by omega
        generalize a3.toInt.toNat = m at ha
        have w1 := w173_1 ha k_0 (nI_toInt (n := (fl (f208 a1 hr) C).length) (by omega)) (by omega)
        rw [w1, if_pos n10] at K T
        obtain ⟨-, -, -, s4⟩ := S29 NN V m3 m5 m6 m4 m7 m8
        obtain ⟨r1, -, -, -⟩ := S212 NN.2.2.1 NN.1 V m3 m4 st' hb
        simp only [x_h] at K T
        rw [K, T, i_cl ha]
        exact (s4 m (by omega)).trans (r1 m (by omega)).symm
      · have w0 := w173_0 (x := a3) rfl k_0 (nI_toInt (n := (fl (f208 a1 hr) C).length) (by omega)) c3
        rw [w0, if_neg (fun z => z rfl)] at K T
        rw [K, T]
  · rw [e1] at K
    simp only [x_opt] at K
    rw [if_pos e1'] at T
    rw [K, T]
end ZO
