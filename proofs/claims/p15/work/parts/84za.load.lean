/-! ===== 84ya: a net is loaded from a heap of which only the shapes are known ===== -/
section MYA
variable {h g hc hr gc gr : mx_H} {S N s t C n F k u v : Nat} {a1 a2 a3 x y : Int32}
def nl_I (h : mx_H) (S : Nat) : Prop := (∀ i, 0 ≤ rD h (.inl 107) i ∧ rD h (.inl 107) i ≤ 9) ∧ (∀ i, 0 ≤ rD h (.inl 108) i ∧ rD h (.inl 108) i ≤ 9) ∧ (∀ i, 0 ≤ rD h (.inl 109) i ∧ rD h (.inl 109) i ≤ 9) ∧ (∀ i, h.2.1 (.inl 110) i = 0 ∨ h.2.1 (.inl 110) i = 1) ∧ rb_9 h ∧ (∀ s c : Nat, s < S → (c : Int) < rD h (.inl 106) s → 1 ≤ rD h (.inl 107) (6 * s + c)) ∧ ∀ p : Nat, p < 36 * S → 0 < rD h (.inl 113) p → 1 ≤ rD h (.inl 111) p
theorem nl_of (I : sf_I h) (e : rD h (.inl 105) 1 = S) : nl_I h S := ⟨fun i => sf_rd (lo := 0) (hi := 9) (r := 319) I (.inl 107) i rfl (by decide), fun i => sf_rd (lo := 0) (hi := 9) (r := 320) I (.inl 108) i rfl (by decide), fun i => sf_rd (lo := 0) (hi := 9) (r := 321) I (.inl 109) i rfl (by decide), sf_110 I, sf_9 I, sf_k2 I e, sf_k3 I e⟩
/-- the shapes' cells on the reference's side -/
def nl_F (h g : mx_H) : Prop := ∀ x i, 106 ≤ x → x ≤ 117 → g.2.1 (.inl x) i = h.2.1 (.inl x) i
theorem nl_F.refl : nl_F h h := fun _ _ _ _ => rfl
theorem nl_F.trans {k : mx_H} (A : nl_F h g) (B : nl_F g k) : nl_F h k := fun x i h1 h2 => (B x i h1 h2).trans (A x i h1 h2)
theorem nl_f (N : nl_I h S) (f : nl_F h g) : nl_I g S := by
  obtain ⟨n1, n2, n3, n4, n5, n6, n7⟩ := N
  refine ⟨fun i => ?_, fun i => ?_, fun i => ?_, fun i => ?_, fun i => ⟨?_, ?_⟩, fun s c q1 q2 => ?_, fun p q1 q2 => ?_⟩
  · unfold rD
    rw [f 107 i (by decide) (by decide)]
    exact n1 i
  · unfold rD
    rw [f 108 i (by decide) (by decide)]
    exact n2 i
  · unfold rD
    rw [f 109 i (by decide) (by decide)]
    exact n3 i
  · rw [f 110 i (by decide) (by decide)]
    exact n4 i
  · unfold rD
    rw [f 111 i (by decide) (by decide)]
    exact (n5 i).1
  · unfold rD
    rw [f 112 i (by decide) (by decide)]
    exact (n5 i).2
  · unfold rD at q2 ⊢
    rw [f 106 _ (by decide) (by decide)] at q2
    rw [f 107 _ (by decide) (by decide)]
    exact n6 s c q1 q2
  · unfold rD at q2 ⊢
    rw [f 113 _ (by decide) (by decide)] at q2
    rw [f 111 _ (by decide) (by decide)]
    exact n7 p q1 q2
/-- the shapes' cells on the class's side, and all references -/
def nl_G (h g : mx_H) : Prop := (∀ s o i, o < 9 → g.2.1 (.inr (s, o)) i = h.2.1 (.inr (s, o)) i) ∧ g.2.2.2 = h.2.2.2
theorem nl_G.refl : nl_G h h := ⟨fun _ _ _ _ => rfl, rfl⟩
theorem nl_G.trans {k : mx_H} (A : nl_G h g) (B : nl_G g k) : nl_G h k := ⟨fun s o i q => (B.1 s o i q).trans (A.1 s o i q), B.2.trans A.2⟩
theorem nl_D (G : nl_G hc gc) (f : nl_F hr gr) (Ds : rs_D hc hr N s C n F) : rs_D gc gr N s C n F := rs_D.x (Nat.le_refl _) (fun o i q => G.1 s o i q.1) (fun k i w => f k i (by unfold rs_w at w; omega) (by unfold rs_w at w; omega)) (fun i _ => ⟨f 117 i (by decide) (by decide), by rw [G.2]⟩) Ds
theorem kn_G (K : kn_F h g t) : nl_G h g := ⟨fun s o i q => K.2.2.2 s o i (by omega), by rw [K.2.1]⟩
theorem cm_G (F : cm_F h g t) : nl_G h g := ⟨fun s o i q => cm_s F (by omega), F.2.2⟩
theorem rn_f (R : rn_F h g) : nl_F h g := fun x i h1 h2 => R.2.2.2 x i (by omega) (fun w => by omega)
theorem tw_f (F : tw_F h g) : nl_F h g := fun x i h1 h2 => tw_l F (by omega) (by omega)
theorem C23y (I : nl_I hr S) (hs : s < S) (s12 : s ≤ 12) (C6 : C ≤ 6) (Q : rs_k hc hr s C F k u v) (hn : rD g (.inr (s, 0)) 6 = n) (hk : k < n) (ha : a3.toInt = (k : Int)) (KF : kn_F hc g t) : g23_80 t s 0 a3 g = g23_80 t s 0 (a3 + 1) (mx_uI (mx_uI g (.inr (t, 34)) (6 * min u v + max u v) (hc.2.1 (.inr (s, 7)) k - hc.2.1 (.inr (s, 8)) k)) (.inr (t, 34)) (6 * max u v + min u v) (hc.2.1 (.inr (s, 7)) k - hc.2.1 (.inr (s, 8)) k)) := by
  obtain ⟨o1, o2, o3, o4, o5, o6, o7, o8, o9, o10, o11, o12, o13⟩ := Q
  have s1 : 1 ≤ rD hr (.inl 111) (36 * s + 6 * u + v) := I.2.2.2.2.2.2 _ (by omega) (by rw [o6]; omega)
  have s9 := (I.2.2.2.2.1 (36 * s + 6 * u + v)).1.2
  rw [show rD hr (.inl 111) (36 * s + 6 * u + v) = rD hc (.inr (s, 7)) k from congrArg Int32.toInt o8] at s1
  rw [show rD hr (.inl 111) (36 * s + 6 * u + v) = rD hc (.inr (s, 7)) k from congrArg Int32.toInt o8] at s9
  have z1 := w6 o4 o5 (show min u v ≤ 12 by omega) (show max u v < 6 by omega)
  have z2 := w6 o5 o4 (show max u v ≤ 12 by omega) (show min u v < 6 by omega)
  rw [g23_80_eq, if_neg (i_nle hn ha (by omega)), i_cl ha, KF.2.2.2 s 7 k (by omega), KF.2.2.2 s 5 k (by omega), KF.2.2.2 s 6 k (by omega), KF.2.2.2 s 8 k (by omega), show hc.2.1 (.inr (s, 7)) k + 0 = hc.2.1 (.inr (s, 7)) k from Int32.add_zero _, w24 s1 s9]
  simp only [x_h, x_val]
  rw [if_neg (i_nlt rfl rfl o13), f26_eq, i_cl z1, i_cl z2]
theorem C23z (I : nl_I hr S) (hs : s < S) (s12 : s ≤ 12) (N200 : N ≤ 200) (Ds : rs_D hc hr N s C n F) {g0 : mx_H} : ∀ (j c : Nat) (a3 : Int32) {g : mx_H}, c + j = n → a3.toInt = (c : Int) → kn_P hc hr g0 g t s F c → kn_P hc hr g0 (g23_80 t s 0 a3 g) t s F n
  | 0, c, a3, g, e, ha, K => by
    have hn : rD g (.inr (s, 0)) 6 = n := by
      unfold rD
      rw [K.1.2.2.2 s 0 6 (by omega)]
      exact Ds.2.2.2.2.2.1
    rw [g23_80_eq, if_pos (i_le hn ha (by omega))]
    exact (show c = n by omega) ▸ K
  | j + 1, c, a3, g, e, ha, K => by
    obtain ⟨K1, K2, K3⟩ := K
    obtain ⟨c1, c6, fn, d1, d2, d3, d4, d5, d6, d7, d8, d9, d10⟩ := id Ds
    have hn : rD g (.inr (s, 0)) 6 = n := by
      unfold rD
      rw [K1.2.2.2 s 0 6 (by omega)]
      exact d3
    obtain ⟨u, v, Q⟩ := d7 c (by omega)
    rw [C23y I hs s12 c6 Q hn (by omega) ha K1]
    refine C23z I hs s12 N200 Ds j (c + 1) (a3 + 1) (by omega) ((i_add ha k_1 (by omega) (by omega)).trans (by omega)) ⟨(K1.fu (by decide) (by decide)).fu (by decide) (by decide), fun o i ho => ?_, fun a b ha6 hb6 => ?_⟩
    · rw [rP ho, rP ho]
      exact K2 o i ho
    · obtain ⟨o1, o2, o3, o4, o5, o6, o7, o8, o9, o10, o11, o12, o13⟩ := id Q
      by_cases z : (a = u ∧ b = v) ∨ (a = v ∧ b = u)
      · have rd : ∀ w : Int32, (mx_uI (mx_uI g (.inr (t, 34)) (6 * min u v + max u v) w) (.inr (t, 34)) (6 * max u v + min u v) w).2.1 (.inr (t, 34)) (6 * a + b) = w := fun w => by
          by_cases q1 : 6 * a + b = 6 * max u v + min u v
          · rw [rI_c rfl q1]
          · rw [rI_i q1, rI_c rfl (by omega)]
        rw [rd]
        unfold kn_L
        rcases z with ⟨z1, z2⟩ | ⟨z1, z2⟩
        · rw [z1, z2, o6, if_pos ⟨by omega, by omega⟩, o8, o10]
        · rw [z1, z2, o7, if_pos ⟨by omega, by omega⟩, o9, o11]
      · rw [rI_i (by omega), rI_i (by omega), K3 a b ha6 hb6]
        have ne : ¬ rD hr (.inl 113) (36 * s + 6 * a + b) = ((F + c + 1 : Nat) : Int) := fun w => by
          rcases d8 a b ha6 hb6 with q | ⟨k, hk, q | q⟩
          · rw [show rD hr (.inl 113) (36 * s + 6 * a + b) = 0 from congrArg Int32.toInt q] at w
            omega
          · obtain ⟨p1, p2, p3, p4, p5, p6, -⟩ := q
            have ek : k = c := by omega
            subst ek
            omega
          · obtain ⟨p1, p2, p3, p4, p5, p6, p7, -⟩ := q
            have ek : k = c := by omega
            subst ek
            omega
        unfold kn_L
        by_cases q : 0 < rD hr (.inl 113) (36 * s + 6 * a + b) ∧ rD hr (.inl 113) (36 * s + 6 * a + b) ≤ ((F + c : Nat) : Int)
        · rw [if_pos q, if_pos ⟨q.1, by omega⟩]
        · rw [if_neg q, if_neg (fun w => q ⟨w.1, by omega⟩)]
theorem nl_load (I : nl_I hr S) (hs : s < S) (s12 : S ≤ 12) (N200 : N ≤ 200) (Ds : rs_D hc hr N s C n F) (h1 : a1.toInt = (s : Int)) (lo : (mx_lo (.inr (t, 34))).2 = 36) : nt_N (f22 t s hc) (f208 a1 hr) t C ∧ kn_F hc (f22 t s hc) t ∧ rn_F hr (f208 a1 hr) ∧ (∀ i, i < C → (f208 a1 hr).2.1 (.inl 128) i = f207 (hr.2.1 (.inl 107) (6 * s + i)) (hr.2.1 (.inl 109) (6 * s + i)) ∧ (f208 a1 hr).2.1 (.inl 129) i = hr.2.1 (.inl 108) (6 * s + i) ∧ (f208 a1 hr).2.1 (.inl 130) i = hr.2.1 (.inl 110) (6 * s + i)) ∧ ∀ i v, i < C → v < C → (f208 a1 hr).2.1 (.inl 131) (6 * i + v) = rn_l hr s i v := by
  obtain ⟨c1, c6, fn, d1, d2, d3, d4, d5, d6, d7, d8, d9, d10⟩ := id Ds
  have b107 := fun i => I.1 i
  have b109 := fun i => I.2.2.1 i
  rw [f22_eq, f23_eq, f208_eq, k317 lo (by decide)]
  simp only [x_h]
  have K0 : kn_C hc (k_f (mx_uI hc (.inr (t, 30)) 0 (hc.2.1 (.inr (s, 0)) 0)) (.inr (t, 34)) 36 0) t s C 0 := by
    refine ⟨⟨rfl, rfl, fun q i => rfl, fun s' o i q => ?_⟩, ?_, fun i hi => k_fs hi, fun i hi => absurd hi (Nat.not_lt_zero _)⟩
    · refine (if_neg (fun e => ?_)).trans (rI_a (fun e => ?_))
      · obtain ⟨e, -⟩ := e
        cases e
        exact q ⟨rfl, by decide, by decide⟩
      · cases e
        exact q ⟨rfl, by decide, by decide⟩
    · unfold rD
      rw [k_fo (by decide), rI_s]
      exact d1
  obtain ⟨g', e', K1, K2, K3, K4⟩ := C23l c6 C 0 0 (by omega) rfl K0
  rw [e']
  have KP := C23z (t := t) I hs (by omega) N200 Ds (g0 := g') n 0 0 (g := g') (by omega) rfl ⟨K1, fun _ _ _ => rfl, fun u v hu hv => by
    rw [K3 _ (by omega)]
    unfold kn_L
    rw [if_neg (fun w => ?_)]
    rcases d8 u v hu hv with q | ⟨k, hk, q | q⟩
    · rw [show rD hr (.inl 113) (36 * s + 6 * u + v) = 0 from congrArg Int32.toInt q] at w
      omega
    · obtain ⟨p1, p2, p3, p4, p5, p6, -⟩ := q
      omega
    · obtain ⟨p1, p2, p3, p4, p5, p6, p7, -⟩ := q
      omega⟩
  have RC := R208o (h := hr) h1 (show s ≤ 12 by omega) c6 (fun i _ => I.2.2.2.1 _) C 0 0 (g := mx_uI hr (.inl 105) 35 (hr.2.1 (.inl 106) (Int32.toNatClampNeg a1))) (by omega) rfl ⟨⟨rfl, rfl, fun q i => rfl, fun q i e1 e2 => if_neg (fun e => e2 ⟨Sum.inl.inj e.1, e.2⟩)⟩, by
    unfold rD
    rw [rI_s, i_cl h1]
    exact d2, fun i hi => absurd hi (Nat.not_lt_zero _), fun i v hi _ => absurd hi (Nat.not_lt_zero _)⟩
  obtain ⟨P1, P2, P3⟩ := KP
  obtain ⟨R1, R2, R3, R4⟩ := RC
  refine ⟨⟨c6, ?_, R2, fun i hi => ?_, fun i j hi hj => ?_⟩, P1, R1, R3, R4⟩
  · unfold rD
    rw [P2 30 0 (by decide)]
    exact K2
  · obtain ⟨r1, r2, r3⟩ := R3 i hi
    obtain ⟨q1, q2, q3⟩ := K4 i hi
    obtain ⟨z1, z2, z3, z4⟩ := d5 i hi
    have m := w_mass (x := hr.2.1 (.inl 107) (6 * s + i)) (w := hr.2.1 (.inl 109) (6 * s + i)) (I.2.2.2.2.2.1 s i hs (by rw [d2]; omega)) (b107 _).2 (b109 _).1 (b109 _).2
    unfold rD
    rw [P2 31 i (by decide), P2 32 i (by decide), P2 33 i (by decide), q1, q2, q3, r1, r2, r3, z1, z2, z3, z4]
    exact ⟨m.1, ⟨m.2.1, m.2.2⟩, rfl, rfl⟩
  · rw [P3 i j (by omega) (by omega), R4 i j hi hj]
    unfold kn_L rn_l
    by_cases q : 0 < rD hr (.inl 113) (36 * s + 6 * i + j)
    · have z2 : rD hr (.inl 113) (36 * s + 6 * i + j) ≤ ((F + n : Nat) : Int) := by
        rcases d8 i j (by omega) (by omega) with w | ⟨k, hk, w | w⟩
        · have z : rD hr (.inl 113) (36 * s + 6 * i + j) = 0 := congrArg Int32.toInt w
          omega
        · obtain ⟨p1, p2, p3, p4, p5, p6, -⟩ := w
          omega
        · obtain ⟨p1, p2, p3, p4, p5, p6, p7, -⟩ := w
          omega
      rw [if_pos q, if_pos ⟨q, z2⟩]
    · rw [if_neg q, if_neg (fun w => q w.1)]
theorem nl_take (I : nl_I hr S) (hs : s < S) (s12 : S ≤ 12) (N200 : N ≤ 200) (Ds : rs_D hc hr N s C n F) (h1 : a1.toInt = (s : Int)) : nt_V (f208 a1 hr) C := by
  obtain ⟨NN, K, R, R3, R4⟩ := nl_load (t := 0) I hs s12 N200 Ds h1 rfl
  obtain ⟨c1, c6, fn, d1, d2, d3, d4, d5, d6, d7, d8, d9, d10⟩ := id Ds
  have b9 := I.2.2.2.2.1
  have ln : ∀ i j, i < C → j < C → (rn_l hr s i j = 0 ∧ rn_l hr s j i = 0) ∨ ∃ v : Int32, rn_l hr s i j = v ∧ rn_l hr s j i = v ∧ 0 ≤ v.toInt ∧ v.toInt ≤ 9 := fun i j hi hj => by
    rcases d8 i j (by omega) (by omega) with w | ⟨m, hm, w⟩
    · have z : rD hr (.inl 113) (36 * s + 6 * i + j) = 0 := congrArg Int32.toInt w
      refine Or.inl ⟨if_neg (by omega), ?_⟩
      rcases d8 j i (by omega) (by omega) with w2 | ⟨m, hm, w2⟩
      · have z2 : rD hr (.inl 113) (36 * s + 6 * j + i) = 0 := congrArg Int32.toInt w2
        exact if_neg (by omega)
      · rcases w2 with ⟨p1, p2, p3, p4, p5, p6, p7, -⟩ | ⟨p1, p2, p3, p4, p5, p6, p7, -⟩
        · omega
        · omega
    · refine Or.inr ⟨hc.2.1 (.inr (s, 7)) m - hc.2.1 (.inr (s, 8)) m, ?_⟩
      have fin : ∀ u v, rs_k hc hr s C F m u v → rn_l hr s u v = hc.2.1 (.inr (s, 7)) m - hc.2.1 (.inr (s, 8)) m ∧ rn_l hr s v u = hc.2.1 (.inr (s, 7)) m - hc.2.1 (.inr (s, 8)) m ∧ 0 ≤ (hc.2.1 (.inr (s, 7)) m - hc.2.1 (.inr (s, 8)) m).toInt ∧ (hc.2.1 (.inr (s, 7)) m - hc.2.1 (.inr (s, 8)) m).toInt ≤ 9 := fun u v w => by
        obtain ⟨o1, o2, o3, o4, o5, o6, o7, o8, o9, o10, o11, o12, o13⟩ := w
        obtain ⟨⟨x1, x2⟩, x3, x4⟩ := b9 (36 * s + 6 * u + v)
        unfold rD at x1 x2 x3 x4
        rw [o8] at x1 x2
        rw [o10] at x3 x4
        have o13' : (hc.2.1 (.inr (s, 8)) m).toInt ≤ (hc.2.1 (.inr (s, 7)) m).toInt := o13
        have sb := i_sub (x := hc.2.1 (.inr (s, 7)) m) (y := hc.2.1 (.inr (s, 8)) m) rfl rfl (by omega) (by omega)
        unfold rn_l
        rw [if_pos (by omega), if_pos (by omega), o8, o9, o10, o11, sb]
        exact ⟨rfl, rfl, by omega, by omega⟩
      rcases w with w | w
      · exact fin i j w
      · obtain ⟨y1, y2, y3⟩ := fin j i w
        exact ⟨y2, y1, y3⟩
  refine ⟨fun i hi => ⟨?_, (NN.2.2.2.1 i hi).2.1⟩, fun i j hi hj => ?_⟩
  · unfold rD
    rw [(R3 i hi).2.1]
    exact I.2.1 (6 * s + i)
  · unfold rD
    rw [R4 i j hi hj, R4 j i hj hi]
    rcases ln i j hi hj with ⟨z1, z2⟩ | ⟨v, z1, z2, z3, z4⟩
    · rw [z1, z2]
      exact ⟨by decide, rfl⟩
    · rw [z1, z2]
      exact ⟨⟨z3, z4⟩, rfl⟩
end MYA
