/-! ===== 84z3: SPLIT, both sides ===== -/
section MU
variable {h g hc hr k : mx_H} {S N C n F s t t' c b m i o : Nat} {a1 a2 a3 a4 x : Int32}
theorem fl_t (Ds : rs_D hc hr N s C n F) (s12 : s ≤ 12) (h1 : a1.toInt = (s : Int)) (e6 : ∀ i, g.2.1 (.inl 106) i = hr.2.1 (.inl 106) i) (e0 : ∀ i, g.2.1 (.inl 110) i = hr.2.1 (.inl 110) i) (ek : ∀ i, i < C → k.2.1 (.inl 130) i = hr.2.1 (.inl 110) (6 * s + i)) : f195 a1 g = nI (fl k C).length := by
  rw [f195_eq]
  refine fl_195 (hr := g) h1 s12 Ds.2.1 ?_ (fun i hi => ?_) C 0 0 0 (by omega) rfl rfl
  · unfold rD
    rw [e6]
    exact Ds.2.2.2.2.1
  · rw [ek i hi, e0]
end MU
/-! ===== 84ya: a net is loaded from a heap of which only the shapes are known ===== -/
section MYA
variable {h g hc hr gc gr : mx_H} {S N s t C n F k u v : Nat} {a1 a2 a3 x y : Int32}
def nl_I (h : mx_H) (S : Nat) : Prop := (∀ i, 0 ≤ rD h (.inl 107) i ∧ rD h (.inl 107) i ≤ 9) ∧ (∀ i, 0 ≤ rD h (.inl 108) i ∧ rD h (.inl 108) i ≤ 9) ∧ (∀ i, 0 ≤ rD h (.inl 109) i ∧ rD h (.inl 109) i ≤ 9) ∧ (∀ i, h.2.1 (.inl 110) i = 0 ∨ h.2.1 (.inl 110) i = 1) ∧ rb_9 h ∧ (∀ s c : Nat, s < S → (c : Int) < rD h (.inl 106) s → 1 ≤ rD h (.inl 107) (6 * s + c)) ∧ ∀ p : Nat, p < 36 * S → 0 < rD h (.inl 113) p → 1 ≤ rD h (.inl 111) p
theorem nl_of (I : sf_I h) (e : rD h (.inl 105) 1 = S) : nl_I h S := ⟨fun i => sf_rd (lo := 0) (hi := 9) (r := 319) I (.inl 107) i rfl (by decide +kernel), fun i => sf_rd (lo := 0) (hi := 9) (r := 320) I (.inl 108) i rfl (by decide +kernel), fun i => sf_rd (lo := 0) (hi := 9) (r := 321) I (.inl 109) i rfl (by decide +kernel), sf_110 I, sf_9 I, sf_k2 I e, sf_k3 I e⟩
/-- the shapes' cells on the reference's side -/
def nl_F (h g : mx_H) : Prop := ∀ x i, 106 ≤ x → x ≤ 117 → g.2.1 (.inl x) i = h.2.1 (.inl x) i
theorem nl_F.refl : nl_F h h := fun _ _ _ _ => rfl
theorem nl_F.trans {k : mx_H} (A : nl_F h g) (B : nl_F g k) : nl_F h k := fun x i h1 h2 => (B x i h1 h2).trans (A x i h1 h2)
theorem nl_f (N : nl_I h S) (f : nl_F h g) : nl_I g S := by
  obtain ⟨n1, n2, n3, n4, n5, n6, n7⟩ := N
  refine ⟨fun i => ?_, fun i => ?_, fun i => ?_, fun i => ?_, fun i => ⟨?_, ?_⟩, fun s c q1 q2 => ?_, fun p q1 q2 => ?_⟩
  · unfold rD
    rw [f 107 i (by decide +kernel) (by decide +kernel)]
    exact n1 i
  · unfold rD
    rw [f 108 i (by decide +kernel) (by decide +kernel)]
    exact n2 i
  · unfold rD
    rw [f 109 i (by decide +kernel) (by decide +kernel)]
    exact n3 i
  · rw [f 110 i (by decide +kernel) (by decide +kernel)]
    exact n4 i
  · unfold rD
    rw [f 111 i (by decide +kernel) (by decide +kernel)]
    exact (n5 i).1
  · unfold rD
    rw [f 112 i (by decide +kernel) (by decide +kernel)]
    exact (n5 i).2
  · unfold rD at q2 ⊢
    rw [f 106 _ (by decide +kernel) (by decide +kernel)] at q2
    rw [f 107 _ (by decide +kernel) (by decide +kernel)]
    exact n6 s c q1 q2
  · unfold rD at q2 ⊢
    rw [f 113 _ (by decide +kernel) (by decide +kernel)] at q2
    rw [f 111 _ (by decide +kernel) (by decide +kernel)]
    exact n7 p q1 q2
/-- the shapes' cells on the class's side, and all references -/
def nl_G (h g : mx_H) : Prop := (∀ s o i, o < 9 → g.2.1 (.inr (s, o)) i = h.2.1 (.inr (s, o)) i) ∧ g.2.2.2 = h.2.2.2
theorem nl_G.refl : nl_G h h := ⟨fun _ _ _ _ => rfl, rfl⟩
theorem nl_G.trans {k : mx_H} (A : nl_G h g) (B : nl_G g k) : nl_G h k := ⟨fun s o i q => (B.1 s o i q).trans (A.1 s o i q), B.2.trans A.2⟩
theorem nl_D (G : nl_G hc gc) (f : nl_F hr gr) (Ds : rs_D hc hr N s C n F) : rs_D gc gr N s C n F := rs_D.x (Nat.le_refl _) (fun o i q => G.1 s o i q.1) (fun k i w => f k i (by unfold rs_w at w; omega) (by unfold rs_w at w; omega)) (fun i _ => ⟨f 117 i (by decide +kernel) (by decide +kernel), by rw [G.2]⟩) Ds
theorem kn_G (K : kn_F h g t) : nl_G h g := ⟨fun s o i q => K.2.2.2 s o i (by omega), by rw [K.2.1]⟩
theorem rn_f (R : rn_F h g) : nl_F h g := fun x i h1 h2 => R.2.2.2 x i (by omega) (fun w => by omega)
theorem C23y (I : nl_I hr S) (hs : s < S) (s12 : s ≤ 12) (C6 : C ≤ 6) (Q : rs_k hc hr s C F k u v) (hn : rD g (.inr (s, 0)) 6 = n) (hk : k < n) (ha : a3.toInt = (k : Int)) (KF : kn_F hc g t) : g23_80 t s 0 a3 g = g23_80 t s 0 (a3 + 1) (mx_uI (mx_uI g (.inr (t, 34)) (6 * min u v + max u v) (hc.2.1 (.inr (s, 7)) k - hc.2.1 (.inr (s, 8)) k)) (.inr (t, 34)) (6 * max u v + min u v) (hc.2.1 (.inr (s, 7)) k - hc.2.1 (.inr (s, 8)) k)) := by
  obtain ⟨o1, o2, o3, o4, o5, o6, o7, o8, o9, o10, o11, o12, o13⟩ := Q
  have s1 : 1 ≤ rD hr (.inl 111) (36 * s + 6 * u + v) := I.2.2.2.2.2.2 _ (by omega) (by rw [o6]; omega)
  have s9 := (I.2.2.2.2.1 (36 * s + 6 * u + v)).1.2
  rw [show rD hr (.inl 111) (36 * s + 6 * u + v) = rD hc (.inr (s, 7)) k from congrArg Int32.toInt o8] at s1
  rw [show rD hr (.inl 111) (36 * s + 6 * u + v) = rD hc (.inr (s, 7)) k from congrArg Int32.toInt o8] at s9
  have z1 := w6 o4 o5 (show min u v ≤ 12 by omega) (show max u v < 6 by omega)
  have z2 := w6 o5 o4 (show max u v ≤ 12 by omega) (show min u v < 6 by omega)
  rw [g23_80_eq, if_neg (i_nle hn ha (by omega)), i_cl ha, KF.2.2.2 s 7 k (by omega), KF.2.2.2 s 5 k (by omega), KF.2.2.2 s 6 k (by omega), KF.2.2.2 s 8 k (by omega), show hc.2.1 (.inr (s, 7)) k + 0 = hc.2.1 (.inr (s, 7)) k from Int32.add_zero _, w24 s1 s9]
  simp only [x_h, x_val]
  rw [if_neg (i_nlt rfl rfl o13), f26_eq, i_cl z1, i_cl z2]
theorem C23z (I : nl_I hr S) (hs : s < S) (s12 : s ≤ 12) (N200 : N ≤ 200) (Ds : rs_D hc hr N s C n F) {g0 : mx_H} : ∀ (j c : Nat) (a3 : Int32) {g : mx_H}, c + j = n → a3.toInt = (c : Int) → kn_P hc hr g0 g t s F c → kn_P hc hr g0 (g23_80 t s 0 a3 g) t s F n
  | 0, c, a3, g, e, ha, K => by
    have hn : rD g (.inr (s, 0)) 6 = n := by
      unfold rD
      rw [K.1.2.2.2 s 0 6 (by omega)]
      exact Ds.2.2.2.2.2.1
    rw [g23_80_eq, if_pos (i_le hn ha (by omega))]
    exact (show c = n by omega) ▸ K
  | j + 1, c, a3, g, e, ha, K => by
    obtain ⟨K1, K2, K3⟩ := K
    obtain ⟨c1, c6, fn, d1, d2, d3, d4, d5, d6, d7, d8, d9, d10⟩ := id Ds
    have hn : rD g (.inr (s, 0)) 6 = n := by
      unfold rD
      rw [K1.2.2.2 s 0 6 (by omega)]
      exact d3
    obtain ⟨u, v, Q⟩ := d7 c (by omega)
    rw [C23y I hs s12 c6 Q hn (by omega) ha K1]
    refine C23z I hs s12 N200 Ds j (c + 1) (a3 + 1) (by omega) ((i_add ha k_1 (by omega) (by omega)).trans (by omega)) ⟨(K1.fu (by decide +kernel) (by decide +kernel)).fu (by decide +kernel) (by decide +kernel), fun o i ho => ?_, fun a b ha6 hb6 => ?_⟩
    · rw [rP ho, rP ho]
      exact K2 o i ho
    · obtain ⟨o1, o2, o3, o4, o5, o6, o7, o8, o9, o10, o11, o12, o13⟩ := id Q
      by_cases z : (a = u ∧ b = v) ∨ (a = v ∧ b = u)
      · have rd : ∀ w : Int32, (mx_uI (mx_uI g (.inr (t, 34)) (6 * min u v + max u v) w) (.inr (t, 34)) (6 * max u v + min u v) w).2.1 (.inr (t, 34)) (6 * a + b) = w := fun w => by
          by_cases q1 : 6 * a + b = 6 * max u v + min u v
          · rw [rI_c rfl q1]
          · rw [rI_i q1, rI_c rfl (by omega)]
        rw [rd]
        unfold kn_L
        rcases z with ⟨z1, z2⟩ | ⟨z1, z2⟩
        · rw [z1, z2, o6, if_pos ⟨by omega, by omega⟩, o8, o10]
        · rw [z1, z2, o7, if_pos ⟨by omega, by omega⟩, o9, o11]
      · rw [rI_i (by omega), rI_i (by omega), K3 a b ha6 hb6]
        have ne : ¬ rD hr (.inl 113) (36 * s + 6 * a + b) = ((F + c + 1 : Nat) : Int) := fun w => by
          rcases d8 a b ha6 hb6 with q | ⟨k, hk, q | q⟩
          · rw [show rD hr (.inl 113) (36 * s + 6 * a + b) = 0 from congrArg Int32.toInt q] at w
            omega
          · obtain ⟨p1, p2, p3, p4, p5, p6, -⟩ := q
            have ek : k = c := by omega
            subst ek
            omega
          · obtain ⟨p1, p2, p3, p4, p5, p6, p7, -⟩ := q
            have ek : k = c := by omega
            subst ek
            omega
        unfold kn_L
        by_cases q : 0 < rD hr (.inl 113) (36 * s + 6 * a + b) ∧ rD hr (.inl 113) (36 * s + 6 * a + b) ≤ ((F + c : Nat) : Int)
        · rw [if_pos q, if_pos ⟨q.1, by omega⟩]
        · rw [if_neg q, if_neg (fun w => q ⟨w.1, by omega⟩)]
theorem nl_load (I : nl_I hr S) (hs : s < S) (s12 : S ≤ 12) (N200 : N ≤ 200) (Ds : rs_D hc hr N s C n F) (h1 : a1.toInt = (s : Int)) (lo : (mx_lo (.inr (t, 34))).2 = 36) : nt_N (f22 t s hc) (f208 a1 hr) t C ∧ kn_F hc (f22 t s hc) t ∧ rn_F hr (f208 a1 hr) ∧ (∀ i, i < C → (f208 a1 hr).2.1 (.inl 128) i = f207 (hr.2.1 (.inl 107) (6 * s + i)) (hr.2.1 (.inl 109) (6 * s + i)) ∧ (f208 a1 hr).2.1 (.inl 129) i = hr.2.1 (.inl 108) (6 * s + i) ∧ (f208 a1 hr).2.1 (.inl 130) i = hr.2.1 (.inl 110) (6 * s + i)) ∧ ∀ i v, i < C → v < C → (f208 a1 hr).2.1 (.inl 131) (6 * i + v) = rn_l hr s i v := by
  obtain ⟨c1, c6, fn, d1, d2, d3, d4, d5, d6, d7, d8, d9, d10⟩ := id Ds
  have b107 := fun i => I.1 i
  have b109 := fun i => I.2.2.1 i
  rw [f22_eq, f23_eq, f208_eq, k317 lo (by decide +kernel)]
  simp only [x_h]
  have K0 : kn_C hc (k_f (mx_uI hc (.inr (t, 30)) 0 (hc.2.1 (.inr (s, 0)) 0)) (.inr (t, 34)) 36 0) t s C 0 := by
    refine ⟨⟨rfl, rfl, fun q i => rfl, fun s' o i q => ?_⟩, ?_, fun i hi => k_fs hi, fun i hi => absurd hi (Nat.not_lt_zero _)⟩
    · refine (if_neg (fun e => ?_)).trans (rI_a (fun e => ?_))
      · obtain ⟨e, -⟩ := e
        cases e
        exact q ⟨rfl, by decide +kernel, by decide +kernel⟩
      · cases e
        exact q ⟨rfl, by decide +kernel, by decide +kernel⟩
    · unfold rD
      rw [k_fo (by decide +kernel), rI_s]
      exact d1
  obtain ⟨g', e', K1, K2, K3, K4⟩ := C23l c6 C 0 0 (by omega) rfl K0
  rw [e']
  have KP := C23z (t := t) I hs (by omega) N200 Ds (g0 := g') n 0 0 (g := g') (by omega) rfl ⟨K1, fun _ _ _ => rfl, fun u v hu hv => by
    rw [K3 _ (by omega)]
    unfold kn_L
    rw [if_neg (fun w => ?_)]
    rcases d8 u v hu hv with q | ⟨k, hk, q | q⟩
    · rw [show rD hr (.inl 113) (36 * s + 6 * u + v) = 0 from congrArg Int32.toInt q] at w
      omega
    · obtain ⟨p1, p2, p3, p4, p5, p6, -⟩ := q
      omega
    · obtain ⟨p1, p2, p3, p4, p5, p6, p7, -⟩ := q
      omega⟩
  have RC := R208o (h := hr) h1 (show s ≤ 12 by omega) c6 (fun i _ => I.2.2.2.1 _) C 0 0 (g := mx_uI hr (.inl 105) 35 (hr.2.1 (.inl 106) (Int32.toNatClampNeg a1))) (by omega) rfl ⟨⟨rfl, rfl, fun q i => rfl, fun q i e1 e2 => if_neg (fun e => e2 ⟨Sum.inl.inj e.1, e.2⟩)⟩, by
    unfold rD
    rw [rI_s, i_cl h1]
    exact d2, fun i hi => absurd hi (Nat.not_lt_zero _), fun i v hi _ => absurd hi (Nat.not_lt_zero _)⟩
  obtain ⟨P1, P2, P3⟩ := KP
  obtain ⟨R1, R2, R3, R4⟩ := RC
  refine ⟨⟨c6, ?_, R2, fun i hi => ?_, fun i j hi hj => ?_⟩, P1, R1, R3, R4⟩
  · unfold rD
    rw [P2 30 0 (by decide +kernel)]
    exact K2
  · obtain ⟨r1, r2, r3⟩ := R3 i hi
    obtain ⟨q1, q2, q3⟩ := K4 i hi
    obtain ⟨z1, z2, z3, z4⟩ := d5 i hi
    have m := w_mass (x := hr.2.1 (.inl 107) (6 * s + i)) (w := hr.2.1 (.inl 109) (6 * s + i)) (I.2.2.2.2.2.1 s i hs (by rw [d2]; omega)) (b107 _).2 (b109 _).1 (b109 _).2
    unfold rD
    rw [P2 31 i (by decide +kernel), P2 32 i (by decide +kernel), P2 33 i (by decide +kernel), q1, q2, q3, r1, r2, r3, z1, z2, z3, z4]
    exact ⟨m.1, ⟨m.2.1, m.2.2⟩, rfl, rfl⟩
  · rw [P3 i j (by omega) (by omega), R4 i j hi hj]
    unfold kn_L rn_l
    by_cases q : 0 < rD hr (.inl 113) (36 * s + 6 * i + j)
    · have z2 : rD hr (.inl 113) (36 * s + 6 * i + j) ≤ ((F + n : Nat) : Int) := by
        rcases d8 i j (by omega) (by omega) with w | ⟨k, hk, w | w⟩
        · have z : rD hr (.inl 113) (36 * s + 6 * i + j) = 0 := congrArg Int32.toInt w
          omega
        · obtain ⟨p1, p2, p3, p4, p5, p6, -⟩ := w
          omega
        · obtain ⟨p1, p2, p3, p4, p5, p6, p7, -⟩ := w
          omega
      rw [if_pos q, if_pos ⟨q, z2⟩]
    · rw [if_neg q, if_neg (fun w => q w.1)]
theorem nl_take (I : nl_I hr S) (hs : s < S) (s12 : S ≤ 12) (N200 : N ≤ 200) (Ds : rs_D hc hr N s C n F) (h1 : a1.toInt = (s : Int)) : nt_V (f208 a1 hr) C := by
  obtain ⟨NN, K, R, R3, R4⟩ := nl_load (t := 0) I hs s12 N200 Ds h1 rfl
  obtain ⟨c1, c6, fn, d1, d2, d3, d4, d5, d6, d7, d8, d9, d10⟩ := id Ds
  have b9 := I.2.2.2.2.1
  have ln : ∀ i j, i < C → j < C → (rn_l hr s i j = 0 ∧ rn_l hr s j i = 0) ∨ ∃ v : Int32, rn_l hr s i j = v ∧ rn_l hr s j i = v ∧ 0 ≤ v.toInt ∧ v.toInt ≤ 9 := fun i j hi hj => by
    rcases d8 i j (by omega) (by omega) with w | ⟨m, hm, w⟩
    · have z : rD hr (.inl 113) (36 * s + 6 * i + j) = 0 := congrArg Int32.toInt w
      refine Or.inl ⟨if_neg (by omega), ?_⟩
      rcases d8 j i (by omega) (by omega) with w2 | ⟨m, hm, w2⟩
      · have z2 : rD hr (.inl 113) (36 * s + 6 * j + i) = 0 := congrArg Int32.toInt w2
        exact if_neg (by omega)
      · rcases w2 with ⟨p1, p2, p3, p4, p5, p6, p7, -⟩ | ⟨p1, p2, p3, p4, p5, p6, p7, -⟩
        · omega
        · omega
    · refine Or.inr ⟨hc.2.1 (.inr (s, 7)) m - hc.2.1 (.inr (s, 8)) m, ?_⟩
      have fin : ∀ u v, rs_k hc hr s C F m u v → rn_l hr s u v = hc.2.1 (.inr (s, 7)) m - hc.2.1 (.inr (s, 8)) m ∧ rn_l hr s v u = hc.2.1 (.inr (s, 7)) m - hc.2.1 (.inr (s, 8)) m ∧ 0 ≤ (hc.2.1 (.inr (s, 7)) m - hc.2.1 (.inr (s, 8)) m).toInt ∧ (hc.2.1 (.inr (s, 7)) m - hc.2.1 (.inr (s, 8)) m).toInt ≤ 9 := fun u v w => by
        obtain ⟨o1, o2, o3, o4, o5, o6, o7, o8, o9, o10, o11, o12, o13⟩ := w
        obtain ⟨⟨x1, x2⟩, x3, x4⟩ := b9 (36 * s + 6 * u + v)
        unfold rD at x1 x2 x3 x4
        rw [o8] at x1 x2
        rw [o10] at x3 x4
        have o13' : (hc.2.1 (.inr (s, 8)) m).toInt ≤ (hc.2.1 (.inr (s, 7)) m).toInt := o13
        have sb := i_sub (x := hc.2.1 (.inr (s, 7)) m) (y := hc.2.1 (.inr (s, 8)) m) rfl rfl (by omega) (by omega)
        unfold rn_l
        rw [if_pos (by omega), if_pos (by omega), o8, o9, o10, o11, sb]
        exact ⟨rfl, rfl, by omega, by omega⟩
      rcases w with w | w
      · exact fin i j w
      · obtain ⟨y1, y2, y3⟩ := fin j i w
        exact ⟨y2, y1, y3⟩
  refine ⟨fun i hi => ⟨?_, (NN.2.2.2.1 i hi).2.1⟩, fun i j hi hj => ?_⟩
  · unfold rD
    rw [(R3 i hi).2.1]
    exact I.2.1 (6 * s + i)
  · unfold rD
    rw [R4 i j hi hj, R4 j i hj hi]
    rcases ln i j hi hj with ⟨z1, z2⟩ | ⟨v, z1, z2, z3, z4⟩
    · rw [z1, z2]
      exact ⟨by decide +kernel, rfl⟩
    · rw [z1, z2]
      exact ⟨⟨z3, z4⟩, rfl⟩
end MYA
/-! ===== turns, alike on both sides ===== -/
section TU
variable {h g g0 k hc hr : mx_H} {S N s o C c u w t f : Nat} {r : Nat → Nat} {a a1 a2 a3 a4 a5 b3 b4 b5 x y : Int32} {cc : Nat → Nat → Int32 → mx_H → mx_H} {dd : Int32 → Int32 → Int32 → Int32 → mx_H → mx_H}
def tr_F (h g : mx_H) : Prop := ∀ q i, q ≠ 139 → ¬ (q = 105 ∧ 46 ≤ i ∧ i ≤ 50) → g.2.1 (.inl q) i = h.2.1 (.inl q) i
theorem tr_F.fu {i : Nat} (F : tr_F h g) : tr_F h (mx_uI g (.inl 139) i x) := fun q i' e e2 => (rI_a (fun z => e (Sum.inl.inj z))).trans (F q i' e e2)
theorem tr_F.fs {i : Nat} (l1 : 46 ≤ i) (l2 : i ≤ 50) (F : tr_F h g) : tr_F h (mx_uI g (.inl 105) i x) := fun q i' e e2 => (if_neg (fun z => e2 ⟨Sum.inl.inj z.1, by omega⟩)).trans (F q i' e e2)
def tc_F (h g : mx_H) : Prop := ∀ q i, g.2.1 (.inr q) i = h.2.1 (.inr q) i
/-- both shapes, both nets -/
def tu_W (g0 hr : mx_H) (s o C : Nat) : Prop := C ≤ 6 ∧ s ≤ 12 ∧ o ≤ 12 ∧ rD g0 (.inr (s, 0)) 0 = C ∧ rD g0 (.inr (o, 0)) 0 = C ∧ rD hr (.inl 106) s = C ∧
  (∀ c, c < C → g0.2.1 (.inr (s, 1)) c = hr.2.1 (.inl 107) (6 * s + c) ∧ g0.2.1 (.inr (s, 2)) c = hr.2.1 (.inl 108) (6 * s + c) ∧ g0.2.1 (.inr (s, 3)) c = hr.2.1 (.inl 109) (6 * s + c) ∧ g0.2.1 (.inr (s, 4)) c = hr.2.1 (.inl 110) (6 * s + c)) ∧
  (∀ c, c < C → g0.2.1 (.inr (o, 1)) c = hr.2.1 (.inl 107) (6 * o + c) ∧ g0.2.1 (.inr (o, 2)) c = hr.2.1 (.inl 108) (6 * o + c) ∧ g0.2.1 (.inr (o, 3)) c = hr.2.1 (.inl 109) (6 * o + c) ∧ g0.2.1 (.inr (o, 4)) c = hr.2.1 (.inl 110) (6 * o + c)) ∧
  (∀ i j, i < C → j < C → g0.2.1 (.inr (2, 34)) (6 * i + j) = rn_l hr s i j) ∧ ∀ i j, i < C → j < C → g0.2.1 (.inr (3, 34)) (6 * i + j) = rn_l hr o i j
theorem T228 (R : tr_F hr k) (h1 : a1.toInt = (s : Int)) (h2 : x.toInt = (u : Int)) (h3 : y.toInt = (c : Int)) (s12 : s ≤ 12) (u6 : u < 6) (c6 : c < 6) : f228 a1 x y k = rn_l hr s u c := by
  rw [f228_eq, f180_eq, i_cl (w179 h1 h2 h3 s12 u6 c6), R 113 _ (by decide +kernel) (nq (by decide +kernel)), R 111 _ (by decide +kernel) (nq (by decide +kernel)), R 112 _ (by decide +kernel) (nq (by decide +kernel))]
  unfold rn_l
  by_cases p : 0 < rD hr (.inl 113) (36 * s + 6 * u + c)
  · rw [if_pos p, if_neg (i_nle rfl k_0 p), if_neg n10]
  · rw [if_neg p, if_pos (i_le rfl k_0 (Int.not_lt.mp p)), if_pos rfl]
theorem T98 (W : tu_W g0 hr s o C) (K : tc_F g0 g) (R : tr_F hr k) (h1 : a1.toInt = (s : Int)) (h2 : a2.toInt = (o : Int)) (h3 : a3.toInt = (c : Int)) (h4 : a4.toInt = (t : Int)) (lc : c < C) (lt : t < C) : f98 s a3 o a4 g = f227 a1 a3 a2 a4 k := by
  obtain ⟨W1, W2, W3, W4, W5, W6, W7, W8, W9, W10⟩ := W
  obtain ⟨x1, x2, x3, x4⟩ := W7 c lc
  obtain ⟨y1, y2, y3, y4⟩ := W8 t lt
  rw [f98_eq, f227_eq, i_cl h3, i_cl h4, i_cl (w6 h1 h3 W2 (by omega)), i_cl (w6 h2 h4 W3 (by omega)), K, K, K, K, K, K, K, K, x1, x2, x3, x4, y1, y2, y3, y4, R 107 _ (by decide +kernel) (nq (by decide +kernel)), R 107 _ (by decide +kernel) (nq (by decide +kernel)), R 108 _ (by decide +kernel) (nq (by decide +kernel)), R 108 _ (by decide +kernel) (nq (by decide +kernel)), R 109 _ (by decide +kernel) (nq (by decide +kernel)), R 109 _ (by decide +kernel) (nq (by decide +kernel)), R 110 _ (by decide +kernel) (nq (by decide +kernel)), R 110 _ (by decide +kernel) (nq (by decide +kernel))]
theorem T99 (W : tu_W g0 hr s o C) (K : tc_F g0 g) (hr' : ∀ j, j < c → rD g (.inl 37) j = (r j : Nat) ∧ r j < C) (h1 : a1.toInt = (c : Int)) (h2 : a2.toInt = (t : Int)) (lc : c < C) (lt : t < C) : ∀ (n j : Nat) (a : Int32), j + n = c → a.toInt = (j : Int) → ((∀ i, j ≤ i → i < c → r i ≠ t ∧ rn_l hr s i c = rn_l hr o (r i) t) ∧ g99_2 a1 a2 a g = 1) ∨ (¬ (∀ i, j ≤ i → i < c → r i ≠ t ∧ rn_l hr s i c = rn_l hr o (r i) t) ∧ g99_2 a1 a2 a g = 0)
  | 0, j, a, e, ha => by
    refine Or.inl ⟨fun i h1 h2 => by omega, ?_⟩
    rw [g99_2_eq, if_pos (i_le h1 ha (by omega))]
  | n + 1, j, a, e, ha => by
    have C6 := W.1
    obtain ⟨q1, q2⟩ := hr' j (by omega)
    have q1' : (g.2.1 (.inl 37) j).toInt = ((r j : Nat) : Int) := q1
    have ha' := (i_add ha k_1 (by omega) (by omega)).trans (show (j : Int) + 1 = ((j + 1 : Nat) : Int) by omega)
    rw [g99_2_eq, if_neg (i_nle h1 ha (by omega)), i_cl ha]
    by_cases z : r j = t
    · refine Or.inr ⟨fun w => (w j (Nat.le_refl _) (by omega)).1 z, ?_⟩
      rw [if_pos (i_eq q1' h2 (by omega))]
    · rw [if_neg (i_ne q1' h2 (by omega)), f27_eq, f27_eq, i_cl (w6 ha h1 (show j ≤ 12 by omega) (by omega)), i_cl (w6 q1' h2 (show r j ≤ 12 by omega) (by omega)), K, K, W.2.2.2.2.2.2.2.2.1 j c (by omega) lc, W.2.2.2.2.2.2.2.2.2 (r j) t q2 lt]
      by_cases z2 : rn_l hr s j c = rn_l hr o (r j) t
      · rw [if_pos z2]
        rcases T99 W K hr' h1 h2 lc lt n (j + 1) (a + 1) (by omega) ha' with ⟨p1, p2⟩ | ⟨p1, p2⟩
        · refine Or.inl ⟨fun i l1 l2 => ?_, p2⟩
          by_cases ij : i = j
          · subst ij
            exact ⟨z, z2⟩
          · exact p1 i (by omega) l2
        · exact Or.inr ⟨fun w => p1 (fun i l1 l2 => w i (by omega) l2), p2⟩
      · rw [if_neg z2]
        exact Or.inr ⟨fun w => z2 (w j (Nat.le_refl _) (by omega)).2, rfl⟩
theorem T138z {b7 : Int32} : g229_138 dd a1 a2 b3 b4 b5 0 b7 k = g229_95 dd a1 a2 b3 b4 (b5 + 1) k := by
  rw [g229_138_eq]
  by_cases z : b3 ≤ b7
  · rw [if_pos z, if_neg (fun w => w rfl)]
  · rw [if_neg z, if_pos rfl, if_neg (fun w => w rfl)]
theorem T138 (W : tu_W g0 hr s o C) (R : tr_F hr k) (hr' : ∀ j, j < c → rD k (.inl 139) j = (r j : Nat) ∧ r j < C) (h1 : a1.toInt = (s : Int)) (h2 : a2.toInt = (o : Int)) (h3 : b3.toInt = (c : Int)) (h5 : b5.toInt = (t : Int)) (lc : c < C) (lt : t < C) : ∀ (n j : Nat) (a : Int32), j + n = c → a.toInt = (j : Int) → ((∀ i, j ≤ i → i < c → rn_l hr s i c = rn_l hr o (r i) t) ∧ ∀ dd, g229_138 dd a1 a2 b3 b4 b5 1 a k = g229_95 dd a1 a2 b3 b4 (b5 + 1) (dd a1 a2 (b3 + 1) (b4 ||| (1 <<< (b5 &&& 31))) (mx_uI k (.inl 139) c b5))) ∨ (¬ (∀ i, j ≤ i → i < c → rn_l hr s i c = rn_l hr o (r i) t) ∧ ∀ dd, g229_138 dd a1 a2 b3 b4 b5 1 a k = g229_95 dd a1 a2 b3 b4 (b5 + 1) k)
  | 0, j, a, e, ha => by
    refine Or.inl ⟨fun i h1 h2 => by omega, fun dd => ?_⟩
    rw [g229_138_eq, if_pos (i_le h3 ha (by omega)), if_pos n10, i_cl h3]
    rfl
  | n + 1, j, a, e, ha => by
    have C6 := W.1
    obtain ⟨q1, q2⟩ := hr' j (by omega)
    have q1' : (k.2.1 (.inl 139) j).toInt = ((r j : Nat) : Int) := q1
    have ha' := (i_add ha k_1 (by omega) (by omega)).trans (show (j : Int) + 1 = ((j + 1 : Nat) : Int) by omega)
    have st : ∀ dd, g229_138 dd a1 a2 b3 b4 b5 1 a k = if rn_l hr s j c ≠ rn_l hr o (r j) t then g229_138 dd a1 a2 b3 b4 b5 0 (a + 1) k else g229_138 dd a1 a2 b3 b4 b5 1 (a + 1) k := fun dd => by
      rw [g229_138_eq, if_neg (i_nle h3 ha (by omega)), if_neg n10, i_cl ha, T228 R h1 ha h3 W.2.1 (by omega) (by omega), T228 R h2 q1' h5 W.2.2.1 (by omega) (by omega)]
    by_cases z2 : rn_l hr s j c = rn_l hr o (r j) t
    · rcases T138 W R hr' h1 h2 h3 h5 lc lt n (j + 1) (a + 1) (by omega) ha' with ⟨p1, p2⟩ | ⟨p1, p2⟩
      · refine Or.inl ⟨fun i l1 l2 => ?_, fun dd => by rw [st, if_neg (fun w => w z2)]; exact p2 dd⟩
        by_cases ij : i = j
        · subst ij
          exact z2
        · exact p1 i (by omega) l2
      · exact Or.inr ⟨fun w => p1 (fun i l1 l2 => w i (by omega) l2), fun dd => by rw [st, if_neg (fun w => w z2)]; exact p2 dd⟩
    · exact Or.inr ⟨fun w => z2 (w j (Nat.le_refl _) (by omega)), fun dd => by rw [st, if_pos z2, T138z]⟩
/-- what both have counted -/
def tu_S (g k : mx_H) (w f : Nat) : Prop := rD g (.inl 35) 0 = f ∧ rD k (.inl 105) 46 = f ∧ g.2.1 (.inl 36) w = k.2.1 (.inl 105) 47 ∧ rD k (.inl 105) 48 = w ∧ k.2.1 (.inl 105) 49 = (if f = 0 then 0 else 1) ∧ (f ≠ 0 → g.2.1 (.inl 35) 1 = k.2.1 (.inl 105) 50 ∧ 0 ≤ rD g (.inl 35) 1)
theorem T100a {a2 v : Int32} {j : Nat} (j6 : j < 6) (A : 0 ≤ a2.toInt) (B : a2.toInt < 10 ^ j) (v0 : 0 ≤ v.toInt) (v6 : v.toInt ≤ 6) : 0 ≤ (10 * a2 + v).toInt ∧ (10 * a2 + v).toInt < 10 ^ (j + 1) := by
  have p : (10 : Int) ^ j ≤ 100000 := by
    rcases (show j = 0 ∨ j = 1 ∨ j = 2 ∨ j = 3 ∨ j = 4 ∨ j = 5 by omega) with e | e | e | e | e | e <;> (rw [e]; decide)
  have m := i_mul ivt_10 (rfl : a2.toInt = a2.toInt) (by omega) (by omega)
  have s := i_add m (rfl : v.toInt = v.toInt) (by omega) (by omega)
  rw [s, Int.pow_succ]
  omega
/-- a turn is found: the class's note -/
theorem T100 (h1 : a1.toInt = (C : Int)) (C6 : C ≤ 6) (hw : w < C) : ∀ (n j : Nat) (a2 a : Int32) {g : mx_H}, j + n = C → a.toInt = (j : Int) → ∃ g' : mx_H, ∃ d : Int32, g100_4 a1 a2 a g = (if g'.2.1 (.inl 35) 0 ≠ 0 then mx_uI g' (.inl 35) 0 (g'.2.1 (.inl 35) 0 + 1) else mx_uI (mx_uI g' (.inl 35) 1 d) (.inl 35) 0 ((mx_uI g' (.inl 35) 1 d).2.1 (.inl 35) 0 + 1)) ∧ tc_F g g' ∧ (∀ q i, q ≠ 36 → g'.2.1 (.inl q) i = g.2.1 (.inl q) i) ∧ (w < j → g'.2.1 (.inl 36) w = g.2.1 (.inl 36) w) ∧ (j ≤ w → g'.2.1 (.inl 36) w = g.2.1 (.inl 36) w ||| (1 <<< (g.2.1 (.inl 37) w &&& 31))) ∧ ((∀ i, i < C → 0 ≤ rD g (.inl 37) i ∧ rD g (.inl 37) i ≤ 6) → 0 ≤ a2.toInt → a2.toInt < 10 ^ j → 0 ≤ d.toInt) ∧ ∀ (b3 b5 : Int32) (k : mx_H), b3.toInt = (C : Int) → b5.toInt = (j : Int) → k.2.1 (.inl 105) 50 = a2 → (∀ i, i < C → k.2.1 (.inl 139) i = g.2.1 (.inl 37) i) → ∃ k' : mx_H, (∀ dd, g229_55 dd b3 b5 k = mx_uI k' (.inl 105) 49 1) ∧ k'.2.1 (.inl 105) 50 = d ∧ (∀ i, i ≠ 50 → k'.2.1 (.inl 105) i = k.2.1 (.inl 105) i) ∧ ∀ q i, q ≠ 105 → k'.2.1 (.inl q) i = k.2.1 (.inl q) i
  | 0, j, a2, a, g, e, ha => by
    refine ⟨g, a2, ?_, fun _ _ => rfl, fun _ _ _ => rfl, fun _ => rfl, fun l => by omega, fun _ A _ => A, fun b3 b5 k h3 h5 hk hx => ⟨k, fun dd => ?_, hk, fun _ _ => rfl, fun _ _ _ => rfl⟩⟩
    · rw [g100_4_eq, if_pos (i_le h1 ha (by omega))]
    · rw [g229_55_eq, if_pos (i_le h3 h5 (by omega))]
  | n + 1, j, a2, a, g, e, ha => by
    have ha' := (i_add ha k_1 (by omega) (by omega)).trans (show (j : Int) + 1 = ((j + 1 : Nat) : Int) by omega)
    obtain ⟨g', d, q1, q2, q3, q4, q5, qn, q6⟩ := T100 h1 C6 hw n (j + 1) (10 * a2 + g.2.1 (.inl 37) j) (a + 1) (g := mx_uI g (.inl 36) j (g.2.1 (.inl 36) j ||| (1 <<< (g.2.1 (.inl 37) j &&& 31)))) (by omega) ha'
    refine ⟨g', d, ?_, fun q i => (q2 q i).trans (rI_a (fun e => by cases e)), fun q i hq => (q3 q i hq).trans (rI_a (fun w => hq (Sum.inl.inj w))), fun l => (q4 (by omega)).trans (rI_i (by omega)), fun l => ?_, fun O A B => qn (fun i hi => by
      unfold rD
      rw [rN (by decide +kernel)]
      exact O i hi) (T100a (by omega) A B (O j (by omega)).1 (O j (by omega)).2).1 (T100a (by omega) A B (O j (by omega)).1 (O j (by omega)).2).2, fun b3 b5 k h3 h5 hk hx => ?_⟩
    · rw [g100_4_eq, if_neg (i_nle h1 ha (by omega)), i_cl ha]
      exact q1
    · by_cases wj : w = j
      · subst wj
        rw [q4 (by omega), rI_s]
      · rw [q5 (by omega), rI_i wj, rN (by decide +kernel)]
    · have h5' := (i_add h5 k_1 (by omega) (by omega)).trans (show (j : Int) + 1 = ((j + 1 : Nat) : Int) by omega)
      obtain ⟨k', p1, p2, p3, p4⟩ := q6 b3 (b5 + 1) (mx_uI k (.inl 105) 50 (10 * a2 + g.2.1 (.inl 37) j)) h3 h5' rI_s (fun i hi => by
        rw [rN (by decide +kernel), rN (by decide +kernel)]
        exact hx i hi)
      refine ⟨k', fun dd => ?_, p2, fun i hi => (p3 i hi).trans (rI_i hi), fun q i hq => (p4 q i hq).trans (rI_a (fun w => hq (Sum.inl.inj w)))⟩
      rw [g229_55_eq, if_neg (i_nle h3 h5 (by omega)), i_cl h5, hk, hx j (by omega)]
      exact p1 dd
/-- behind a stretch of the search: what stays, what is counted -/
def tu_Z (hr g0 g k g' k' : mx_H) (c w f b : Nat) : Prop := tc_F g0 g' ∧ tr_F hr k' ∧ (∀ j, j < c → g'.2.1 (.inl 37) j = g.2.1 (.inl 37) j ∧ k'.2.1 (.inl 139) j = k.2.1 (.inl 139) j) ∧ ∃ f', f ≤ f' ∧ f' ≤ f + b ∧ tu_S g' k' w f'
theorem Tleaf (K : tc_F g0 g) (R : tr_F hr k) (h3 : a3.toInt = (C : Int)) (hb : b3.toInt = (C : Int)) (C6 : C ≤ 6) (hw : w < C) (Z : tu_S g k w f) (fb : f < 50000) (O : ∀ j, j < C → k.2.1 (.inl 139) j = g.2.1 (.inl 37) j) (O2 : ∀ j, j < C → 0 ≤ rD g (.inl 37) j ∧ rD g (.inl 37) j ≤ 6) (hC : rD g (.inr (s, 0)) 0 = C) (hC' : rD k (.inl 106) s = C) (h1 : a1.toInt = (s : Int)) : (∀ cc cc', fb97 cc s o a3 g = fb97 cc' s o a3 g) ∧ (∀ dd dd', fb229 dd a1 a2 b3 b4 k = fb229 dd' a1 a2 b3 b4 k) ∧ tu_Z hr g0 g k (fb97 cc s o a3 g) (fb229 dd a1 a2 b3 b4 k) C w f 1 := by
  obtain ⟨Z1, Z2, Z3, Z4, Z5, Z6⟩ := Z
  obtain ⟨g', d, q1, q2, q3, q4, q5, qn, q6⟩ := T100 (w := w) h3 C6 hw C 0 0 0 (g := g) (by omega) rfl
  have d0 : 0 ≤ d.toInt := qn O2 (by decide +kernel) (by decide +kernel)
  have eg : ∀ cc, fb97 cc s o a3 g = f100 a3 g := fun cc => by
    rw [fb97_eq, if_pos (i_le hC h3 (by omega))]
    rfl
  have e0 : g'.2.1 (.inl 35) 0 = g.2.1 (.inl 35) 0 := q3 35 0 (by decide +kernel)
  have e1 : g'.2.1 (.inl 35) 1 = g.2.1 (.inl 35) 1 := q3 35 1 (by decide +kernel)
  have Z1' : (g.2.1 (.inl 35) 0).toInt = (f : Int) := Z1
  have Z2' : (k.2.1 (.inl 105) 46).toInt = (f : Int) := Z2
  have ek : ∀ dd, fb229 dd a1 a2 b3 b4 k = if (if f = 0 then (0 : Int32) else 1) ≠ 0 then mx_uI (mx_uI k (.inl 105) 46 (k.2.1 (.inl 105) 46 + 1)) (.inl 105) 47 (k.2.1 (.inl 105) 47 ||| (1 <<< (k.2.1 (.inl 139) w &&& 31))) else g229_55 dd b3 0 (mx_uI (mx_uI (mx_uI k (.inl 105) 46 (k.2.1 (.inl 105) 46 + 1)) (.inl 105) 47 (k.2.1 (.inl 105) 47 ||| (1 <<< (k.2.1 (.inl 139) w &&& 31)))) (.inl 105) 50 0) := fun dd => by
    rw [fb229_eq, if_neg (show ¬ b3 ≠ k.2.1 (.inl 106) (Int32.toNatClampNeg a1) from fun w => w (by
      rw [i_cl h1]
      exact i_eq hb hC' rfl))]
    simp only [rI_i (show (48 : Nat) ≠ 46 by decide +kernel), rI_i (show (47 : Nat) ≠ 46 by decide +kernel), rI_i (show (49 : Nat) ≠ 47 by decide +kernel), rI_i (show (49 : Nat) ≠ 46 by decide +kernel), rN (show (139 : Nat) ≠ 105 by decide +kernel), i_cl Z4, Z5]
  refine ⟨fun cc cc' => (eg cc).trans (eg cc').symm, ?_⟩
  rw [eg, f100_eq, q1, e0]
  by_cases z : f = 0
  · subst z
    rw [if_neg (show ¬ g.2.1 (.inl 35) 0 ≠ 0 from fun w => w (i_eq Z1' k_0 rfl))]
    have ek' : ∀ dd, fb229 dd a1 a2 b3 b4 k = g229_55 dd b3 0 (mx_uI (mx_uI (mx_uI k (.inl 105) 46 (k.2.1 (.inl 105) 46 + 1)) (.inl 105) 47 (k.2.1 (.inl 105) 47 ||| (1 <<< (k.2.1 (.inl 139) w &&& 31)))) (.inl 105) 50 0) := fun dd => by
      rw [ek, if_pos rfl, if_neg (fun w => w rfl)]
    obtain ⟨k', p1, p2, p3, p4⟩ := q6 b3 0 (mx_uI (mx_uI (mx_uI k (.inl 105) 46 (k.2.1 (.inl 105) 46 + 1)) (.inl 105) 47 (k.2.1 (.inl 105) 47 ||| (1 <<< (k.2.1 (.inl 139) w &&& 31)))) (.inl 105) 50 0) hb rfl rI_s (fun i hi => by
      rw [rN (by decide +kernel), rN (by decide +kernel), rN (by decide +kernel)]
      exact O i hi)
    refine ⟨fun dd dd' => by rw [ek', ek', p1, p1], ?_⟩
    rw [ek', p1]
    refine ⟨fun q i => (rI_a (fun e => by cases e)).trans ((rI_a (fun e => by cases e)).trans ((q2 q i).trans (K q i))), fun q i h1 h2 => ?_, fun j hj => ⟨?_, ?_⟩, 1, by decide +kernel, Nat.le_refl _, ?_, ?_, ?_, ?_, ?_, fun _ => ?_⟩
    · by_cases q105 : q = 105
      · subst q105
        rw [rI_i (by omega), p3 i (by omega), rI_i (by omega), rI_i (by omega), rI_i (by omega)]
        exact R 105 i h1 h2
      · rw [rI_a (fun w => q105 (Sum.inl.inj w)), p4 q i q105, rI_a (fun w => q105 (Sum.inl.inj w)), rI_a (fun w => q105 (Sum.inl.inj w)), rI_a (fun w => q105 (Sum.inl.inj w))]
        exact R q i h1 h2
    · rw [rN (by decide +kernel), rN (by decide +kernel), q3 37 j (by decide +kernel)]
    · rw [rN (by decide +kernel), p4 139 j (by decide +kernel), rN (by decide +kernel), rN (by decide +kernel), rN (by decide +kernel)]
    · unfold rD
      rw [rI_s, rI_i (by decide +kernel), e0]
      exact i_add Z1' k_1 (by decide +kernel) (by decide +kernel)
    · unfold rD
      rw [rI_i (by decide +kernel), p3 46 (by decide +kernel), rI_i (by decide +kernel), rI_i (by decide +kernel), rI_s]
      exact i_add Z2' k_1 (by decide +kernel) (by decide +kernel)
    · rw [rN (by decide +kernel), rN (by decide +kernel), q5 (Nat.zero_le _), rI_i (by decide +kernel), p3 47 (by decide +kernel), rI_i (by decide +kernel), rI_s, Z3, O w hw]
    · unfold rD
      rw [rI_i (by decide +kernel), p3 48 (by decide +kernel), rI_i (by decide +kernel), rI_i (by decide +kernel), rI_i (by decide +kernel)]
      exact Z4
    · rw [rI_s]
      rfl
    · refine ⟨by rw [rI_i (by decide +kernel), rI_s, rI_i (by decide +kernel), p2], ?_⟩
      unfold rD
      rw [rI_i (by decide +kernel), rI_s]
      exact d0
  · rw [if_pos (show g.2.1 (.inl 35) 0 ≠ 0 from i_ne Z1' k_0 (by omega))]
    have ek' : ∀ dd, fb229 dd a1 a2 b3 b4 k = mx_uI (mx_uI k (.inl 105) 46 (k.2.1 (.inl 105) 46 + 1)) (.inl 105) 47 (k.2.1 (.inl 105) 47 ||| (1 <<< (k.2.1 (.inl 139) w &&& 31))) := fun dd => by
      rw [ek, if_neg z, if_pos n10]
    refine ⟨fun dd dd' => by rw [ek', ek'], ?_⟩
    rw [ek']
    refine ⟨fun q i => (rI_a (fun e => by cases e)).trans ((q2 q i).trans (K q i)), fun q i h1 h2 => ?_, fun j hj => ⟨?_, ?_⟩, f + 1, by omega, Nat.le_refl _, ?_, ?_, ?_, ?_, ?_, fun _ => ?_⟩
    · by_cases q105 : q = 105
      · subst q105
        rw [rI_i (by omega), rI_i (by omega)]
        exact R 105 i h1 h2
      · rw [rI_a (fun w => q105 (Sum.inl.inj w)), rI_a (fun w => q105 (Sum.inl.inj w))]
        exact R q i h1 h2
    · rw [rN (by decide +kernel), q3 37 j (by decide +kernel)]
    · rw [rN (by decide +kernel), rN (by decide +kernel)]
    · unfold rD
      rw [rI_s]
      exact (i_add Z1' k_1 (by omega) (by omega)).trans (by omega)
    · unfold rD
      rw [rI_i (by decide +kernel), rI_s]
      exact (i_add Z2' k_1 (by omega) (by omega)).trans (by omega)
    · rw [rN (by decide +kernel), q5 (Nat.zero_le _), rI_s, Z3, O w hw]
    · unfold rD
      rw [rI_i (by decide +kernel), rI_i (by decide +kernel)]
      exact Z4
    · rw [rI_i (by decide +kernel), rI_i (by decide +kernel), Z5, if_neg z, if_neg (by omega)]
    · refine ⟨?_, ?_⟩
      · rw [rI_i (by decide +kernel), e1, rI_i (by decide +kernel), rI_i (by decide +kernel)]
        exact (Z6 z).1
      · unfold rD
        rw [rI_i (by decide +kernel), e1]
        exact (Z6 z).2
/-- used corners as bits -/
theorem tu_b1 : ∀ u, u < 64 → ∀ t, t < 6 → (((nI u >>> (nI t &&& 31)) &&& 1 = 1) ↔ u.testBit t = true) := by decide +kernel
theorem tu_b2 : ∀ u, u < 64 → ∀ t, t < 6 → (nI u ||| (1 <<< (nI t &&& 31)) = nI (u ||| 2 ^ t) ∧ u ||| 2 ^ t < 64) := by decide +kernel
def tu_U (b4 : Int32) (c : Nat) (r : Nat → Nat) : Prop := ∃ u, u < 64 ∧ b4 = nI u ∧ ∀ t, t < 6 → (u.testBit t = true ↔ ∃ j, j < c ∧ r j = t)
def tu_O (g k : mx_H) (C c : Nat) (r : Nat → Nat) : Prop := ∀ j, j < c → rD g (.inl 37) j = (r j : Nat) ∧ k.2.1 (.inl 139) j = g.2.1 (.inl 37) j ∧ r j < C
/-- what a call at depth c does (cc0, dd0: the same with less to spare) -/
def tu_R (cc cc0 : Nat → Nat → Int32 → mx_H → mx_H) (dd dd0 : Int32 → Int32 → Int32 → Int32 → mx_H → mx_H) (g0 hr : mx_H) (s o C w c b : Nat) (a1 a2 : Int32) : Prop := ∀ (r : Nat → Nat) (a3 b3 b4 : Int32) (g k : mx_H) (f : Nat), a3.toInt = (c : Int) → b3.toInt = (c : Int) → tc_F g0 g → tr_F hr k → tu_O g k C c r → tu_U b4 c r → tu_S g k w f → f + b ≤ 50000 → cc s o a3 g = cc0 s o a3 g ∧ dd a1 a2 b3 b4 k = dd0 a1 a2 b3 b4 k ∧ tu_Z hr g0 g k (cc s o a3 g) (dd a1 a2 b3 b4 k) c w f b
theorem Tloop {b : Nat} {cc0 : Nat → Nat → Int32 → mx_H → mx_H} {dd0 : Int32 → Int32 → Int32 → Int32 → mx_H → mx_H} (W : tu_W g0 hr s o C) (h1 : a1.toInt = (s : Int)) (h2 : a2.toInt = (o : Int)) (lc : c < C) (IH : tu_R cc cc0 dd dd0 g0 hr s o C w (c + 1) b a1 a2) (h3 : a3.toInt = (c : Int)) (U : tu_U b4 c r) : ∀ (n t : Nat) (a4 : Int32) {g k : mx_H} {f : Nat}, t + n = C → a4.toInt = (t : Int) → tc_F g0 g → tr_F hr k → tu_O g k C c r → tu_S g k w f → f + n * b ≤ 50000 → g97_23 cc s o a3 a4 g = g97_23 cc0 s o a3 a4 g ∧ g229_95 dd a1 a2 a3 b4 a4 k = g229_95 dd0 a1 a2 a3 b4 a4 k ∧ tu_Z hr g0 g k (g97_23 cc s o a3 a4 g) (g229_95 dd a1 a2 a3 b4 a4 k) c w f (n * b)
  | 0, t, a4, g, k, f, e, h4, K, R, O, Z, B => by
    obtain ⟨W1, W2, W3, W4, W5, W6, W7, W8, W9, W10⟩ := W
    have eg : ∀ cc, g97_23 cc s o a3 a4 g = g := fun cc => by
      rw [g97_23_eq, if_pos (show g.2.1 (.inr (o, 0)) 0 ≤ a4 from i_le (p := (C : Int)) (by rw [K]; exact W5) h4 (by omega))]
    have ek : ∀ dd, g229_95 dd a1 a2 a3 b4 a4 k = k := fun dd => by
      rw [g229_95_eq, i_cl h1, if_pos (show k.2.1 (.inl 106) s ≤ a4 from i_le (p := (C : Int)) (by rw [R 106 s (by decide +kernel) (nq (by decide +kernel))]; exact W6) h4 (by omega))]
    rw [eg, eg, ek, ek]
    exact ⟨rfl, rfl, K, R, fun _ _ => ⟨rfl, rfl⟩, f, Nat.le_refl _, by omega, Z⟩
  | n + 1, t, a4, g, k, f, e, h4, K, R, O, Z, B => by
    obtain ⟨W1, W2, W3, W4, W5, W6, W7, W8, W9, W10⟩ := id W
    have h4' := (i_add h4 k_1 (by omega) (by omega)).trans (show (t : Int) + 1 = ((t + 1 : Nat) : Int) by omega)
    have lt : t < C := by omega
    rw [Nat.succ_mul] at B ⊢
    have eg : ∀ cc, g97_23 cc s o a3 a4 g = if f98 s a3 o a4 g = 0 then g97_23 cc s o a3 (a4 + 1) g else if f99 a3 a4 g = 0 then g97_23 cc s o a3 (a4 + 1) g else g97_23 cc s o a3 (a4 + 1) (cc s o (a3 + 1) (mx_uI g (.inl 37) c a4)) := fun cc => by
      rw [g97_23_eq, if_neg (show ¬ g.2.1 (.inr (o, 0)) 0 ≤ a4 from i_nle (p := (C : Int)) (by rw [K]; exact W5) h4 (by omega)), i_cl h3]
      rfl
    have ek : ∀ dd, g229_95 dd a1 a2 a3 b4 a4 k = if ((b4 >>> (a4 &&& 31)) &&& 1) = 1 then g229_95 dd a1 a2 a3 b4 (a4 + 1) k else if f98 s a3 o a4 g ≠ 0 then g229_138 dd a1 a2 a3 b4 a4 1 0 k else g229_95 dd a1 a2 a3 b4 (a4 + 1) k := fun dd => by
      rw [g229_95_eq, i_cl h1, if_neg (show ¬ k.2.1 (.inl 106) s ≤ a4 from i_nle (p := (C : Int)) (by rw [R 106 s (by decide +kernel) (nq (by decide +kernel))]; exact W6) h4 (by omega)), T98 W K R h1 h2 h3 h4 lc lt]
    have eb : a4 = nI t := i_nI h4
    obtain ⟨u, u64, u1, u2⟩ := id U
    have skip : (∀ cc, g97_23 cc s o a3 a4 g = g97_23 cc s o a3 (a4 + 1) g) → (∀ dd, g229_95 dd a1 a2 a3 b4 a4 k = g229_95 dd a1 a2 a3 b4 (a4 + 1) k) → g97_23 cc s o a3 a4 g = g97_23 cc0 s o a3 a4 g ∧ g229_95 dd a1 a2 a3 b4 a4 k = g229_95 dd0 a1 a2 a3 b4 a4 k ∧ tu_Z hr g0 g k (g97_23 cc s o a3 a4 g) (g229_95 dd a1 a2 a3 b4 a4 k) c w f (n * b + b) := fun s1 s2 => by
      rw [s1, s1, s2, s2]
      obtain ⟨y1, y2, z1, z2, z3, f', z4, z5, z6⟩ := Tloop W h1 h2 lc IH h3 U n (t + 1) (a4 + 1) (g := g) (k := k) (f := f) (by omega) h4' K R O Z (by omega)
      exact ⟨y1, y2, z1, z2, z3, f', z4, by omega, z6⟩
    have Or' : ∀ j, j < c → rD k (.inl 139) j = (r j : Nat) ∧ r j < C := fun j hj => ⟨by
      unfold rD
      rw [(O j hj).2.1]
      exact (O j hj).1, (O j hj).2.2⟩
    rcases T99 (r := r) W K (fun j hj => ⟨(O j hj).1, (O j hj).2.2⟩) h3 h4 lc lt c 0 0 (by omega) rfl with ⟨p1, p2⟩ | ⟨p1, p2⟩
    · have used : ¬ (b4 >>> (a4 &&& 31)) &&& 1 = 1 := fun q => by
        rw [u1, eb] at q
        obtain ⟨j, j1, j2⟩ := (u2 t (by omega)).mp ((tu_b1 u u64 t (by omega)).mp q)
        exact (p1 j (Nat.zero_le _) j1).1 j2
      by_cases z : f98 s a3 o a4 g = 0
      · exact skip (fun cc => by rw [eg, if_pos z]) (fun dd => by rw [ek, if_neg used, if_neg (fun q => q z)])
      · rcases T138 (b4 := b4) (r := r) W R Or' h1 h2 h3 h4 lc lt c 0 0 (by omega) rfl with ⟨r1, r2⟩ | ⟨r1, r2⟩
        · have eg2 : ∀ cc, g97_23 cc s o a3 a4 g = g97_23 cc s o a3 (a4 + 1) (cc s o (a3 + 1) (mx_uI g (.inl 37) c a4)) := fun cc => by
            rw [eg, if_neg z, f99_eq, p2, if_neg n10]
          have ek2 : ∀ dd, g229_95 dd a1 a2 a3 b4 a4 k = g229_95 dd a1 a2 a3 b4 (a4 + 1) (dd a1 a2 (a3 + 1) (b4 ||| (1 <<< (a4 &&& 31))) (mx_uI k (.inl 139) c a4)) := fun dd => by
            rw [ek, if_neg used, if_pos z, r2]
          obtain ⟨v1, v2⟩ := tu_b2 u u64 t (by omega)
          have O' : tu_O (mx_uI g (.inl 37) c a4) (mx_uI k (.inl 139) c a4) C (c + 1) (fun j => if j = c then t else r j) := fun j hj => by
            unfold rD
            by_cases jc : j = c
            · subst jc
              rw [rI_s, rI_s]
              dsimp only
              rw [if_pos rfl]
              exact ⟨h4, rfl, lt⟩
            · rw [rI_i jc, rI_i jc]
              dsimp only
              rw [if_neg jc]
              exact O j (by omega)
          have h3' := (i_add h3 k_1 (by omega) (by omega)).trans (show (c : Int) + 1 = ((c + 1 : Nat) : Int) by omega)
          obtain ⟨y1, y2, z1, z2, z3, f1, z4, z5, z6⟩ := IH (fun j => if j = c then t else r j) (a3 + 1) (a3 + 1) (b4 ||| (1 <<< (a4 &&& 31))) (mx_uI g (.inl 37) c a4) (mx_uI k (.inl 139) c a4) f h3' h3' (fun q i => (rI_a (fun e => by cases e)).trans (K q i)) R.fu O' ⟨u ||| 2 ^ t, v2, by rw [u1, eb]; exact v1, fun t' ht' => by
            rw [Nat.testBit_or, Nat.testBit_two_pow]
            constructor
            · intro q
              rcases (Bool.or_eq_true _ _).mp q with q | q
              · obtain ⟨j, j1, j2⟩ := (u2 t' ht').mp q
                exact ⟨j, by omega, (if_neg (by omega)).trans j2⟩
              · exact ⟨c, by omega, (if_pos rfl).trans (of_decide_eq_true q)⟩
            · intro ⟨j, j1, j2⟩
              by_cases jc : j = c
              · have j2 : t = t' := (if_pos jc).symm.trans j2
                rw [j2]
                simp
              · have j2 : r j = t' := (if_neg jc).symm.trans j2
                rw [(u2 t' ht').mpr ⟨j, by omega, j2⟩]
                rfl⟩ (by
            obtain ⟨y1, y2, y3, y4, y5, y6⟩ := Z
            unfold tu_S rD
            rw [rN (show (35 : Nat) ≠ 37 by decide +kernel), rN (show (36 : Nat) ≠ 37 by decide +kernel), rN (show (105 : Nat) ≠ 139 by decide +kernel)]
            exact ⟨y1, y2, y3, y4, y5, y6⟩) (by omega)
          obtain ⟨x1, x2, w1, w2, w3, f2, w4, w5, w6⟩ := Tloop W h1 h2 lc IH h3 U n (t + 1) (a4 + 1) (g := cc s o (a3 + 1) (mx_uI g (.inl 37) c a4)) (k := dd a1 a2 (a3 + 1) (b4 ||| (1 <<< (a4 &&& 31))) (mx_uI k (.inl 139) c a4)) (f := f1) (by omega) h4' z1 z2 (fun j hj => by
            unfold rD
            rw [(z3 j (by omega)).1, (z3 j (by omega)).2, rI_i (by omega), rI_i (by omega)]
            exact O j hj) z6 (by omega)
          refine ⟨?_, ?_, ?_⟩
          · rw [eg2, eg2, x1, y1]
          · rw [ek2, ek2, x2, y2]
          · rw [eg2, ek2]
            exact ⟨w1, w2, fun j hj => ⟨(w3 j hj).1.trans ((z3 j (by omega)).1.trans (rI_i (by omega))), (w3 j hj).2.trans ((z3 j (by omega)).2.trans (rI_i (by omega)))⟩, f2, by omega, by omega, w6⟩
        · exact absurd (fun i l1 l2 => (p1 i l1 l2).2) r1
    · refine skip (fun cc => by
        rw [eg, f99_eq, p2, if_pos rfl]
        split <;> rfl) (fun dd => ?_)
      by_cases used : (b4 >>> (a4 &&& 31)) &&& 1 = 1
      · rw [ek, if_pos used]
      · rw [ek, if_neg used]
        by_cases z : f98 s a3 o a4 g ≠ 0
        · rw [if_pos z]
          rcases T138 (b4 := b4) (r := r) W R Or' h1 h2 h3 h4 lc lt c 0 0 (by omega) rfl with ⟨r1, r2⟩ | ⟨r1, r2⟩
          · refine absurd (fun i l1 l2 => ⟨fun q => used ?_, r1 i l1 l2⟩) p1
            rw [u1, eb]
            exact (tu_b1 u u64 t (by omega)).mpr ((u2 t (by omega)).mpr ⟨i, l2, q⟩)
          · exact r2 dd
        · rw [if_neg z]
/-- the whole search, from depth c on -/
theorem Trec (W : tu_W g0 hr s o C) (h1 : a1.toInt = (s : Int)) (h2 : a2.toInt = (o : Int)) (hw : w < C) : ∀ (d c K L : Nat), c + d = C → d ≤ K → d ≤ L → tu_R (ff97 (K + 1)) (ff97 (d + 1)) (ff229 (L + 1)) (ff229 (d + 1)) g0 hr s o C w c (6 ^ d) a1 a2
  | 0, c, K, L, e, _, _ => fun r a3 b3 b4 g k f h3 hb3 F R O U Z B => by
    have ec : c = C := by omega
    subst ec
    rw [ff97_eq, ff229_eq, ff97_eq, ff229_eq]
    obtain ⟨q1, q2, q3⟩ := Tleaf (g0 := g0) (cc := ff97 K) (dd := ff229 L) (o := o) (a2 := a2) (b4 := b4) F R h3 hb3 W.1 hw Z (by omega) (fun j hj => (O j hj).2.1) (fun j hj => by
      have o1 := (O j hj).1
      have o2 := (O j hj).2.2
      have c6 := W.1
      omega) (show rD g (.inr (s, 0)) 0 = c by unfold rD; rw [F]; exact W.2.2.2.1) (show rD k (.inl 106) s = c by unfold rD; rw [R 106 s (by decide +kernel) (nq (by decide +kernel))]; exact W.2.2.2.2.2.1) h1
    exact ⟨q1 _ _, q2 _ _, q3⟩
  | d + 1, c, K, L, e, hK, hL => fun r a3 b3 b4 g k f h3 hb3 F R O U Z B => by
    obtain ⟨K', rfl⟩ : ∃ K', K = K' + 1 := ⟨K - 1, by omega⟩
    obtain ⟨L', rfl⟩ : ∃ L', L = L' + 1 := ⟨L - 1, by omega⟩
    have IH := Trec W h1 h2 hw d (c + 1) K' L' (by omega) (by omega) (by omega)
    have C6 := W.1
    have lc : c < C := by omega
    have e33 : b3 = a3 := i_eq hb3 h3 rfl
    subst e33
    have eg : ∀ cc, fb97 cc s o b3 g = g97_23 cc s o b3 0 g := fun cc => by
      rw [fb97_eq, if_neg (show ¬ g.2.1 (.inr (s, 0)) 0 ≤ b3 from i_nle (p := (C : Int)) (by rw [F]; exact W.2.2.2.1) h3 (by omega)), if_pos (i_lt h3 k_6 (by omega))]
    have ek : ∀ dd, fb229 dd a1 a2 b3 b4 k = g229_95 dd a1 a2 b3 b4 0 k := fun dd => by
      rw [fb229_eq, i_cl h1, if_pos (show b3 ≠ k.2.1 (.inl 106) s from i_ne (q := (C : Int)) hb3 (by rw [R 106 s (by decide +kernel) (nq (by decide +kernel))]; exact W.2.2.2.2.2.1) (by omega))]
    have e6 : 6 ^ (d + 1) = 6 ^ d * 6 := Nat.pow_succ 6 d
    have le : C * 6 ^ d ≤ 6 ^ (d + 1) := by
      rw [e6, Nat.mul_comm]
      exact Nat.mul_le_mul_left _ C6
    obtain ⟨y1, y2, z1, z2, z3, f', z4, z5, z6⟩ := Tloop W h1 h2 lc IH h3 U C 0 0 (g := g) (k := k) (f := f) (by omega) rfl F R O Z (by omega)
    rw [ff97_eq, ff229_eq, ff97_eq (d + 1), ff229_eq (d + 1), eg, eg, ek, ek]
    exact ⟨y1, y2, z1, z2, z3, f', z4, by omega, z6⟩
end TU
/-! ===== turns: the calls ===== -/
section TV
variable {h g hc hr : mx_H} {S N s o C n n' F F' w : Nat} {a a1 a2 a3 x y : Int32}
/-- the class's nets are loaded -/
def tv_1 (hc : mx_H) : mx_H := k_f (mx_uI (mx_uI hc (.inl 35) 0 0) (.inl 35) 1 0) (.inl 36) 6 0
theorem tk_fi {b : Nat} {q : Nat × Nat} {i : Nat} {v : Int32} : (k_f h (.inl b) n v).2.1 (.inr q) i = h.2.1 (.inr q) i := k_fr.trans (if_neg (fun w => by
  obtain ⟨e, -⟩ := w
  cases e))
theorem tk_fl {b c : Nat} {i : Nat} {v : Int32} (e : c ≠ b) : (k_f h (.inl b) n v).2.1 (.inl c) i = h.2.1 (.inl c) i := k_fr.trans (if_neg (fun w => e (Sum.inl.inj w.1)))
theorem tv_1i (q : Nat × Nat) (i : Nat) : (tv_1 hc).2.1 (.inr q) i = hc.2.1 (.inr q) i := tk_fi.trans ((rI_a (fun e => by cases e)).trans (rI_a (fun e => by cases e)))
theorem tv_D (Ds : rs_D hc hr N s C n F) : rs_D (tv_1 hc) hr N s C n F := Ds.x (Nat.le_refl _) (fun o i _ => tv_1i (s, o) i) (fun _ _ _ => rfl) (fun _ _ => ⟨rfl, rfl⟩)
theorem tv_D2 {t : Nat} (K : kn_F h g t) (Ds : rs_D h hr N s C n F) : rs_D g hr N s C n F := Ds.x (Nat.le_refl _) (fun o i ho => K.2.2.2 s o i (by omega)) (fun _ _ _ => rfl) (fun _ _ => ⟨rfl, by rw [K.2.1]⟩)
theorem tv_W (I : nl_I hr S) (A1 : S ≤ 12) (A2 : N ≤ 200) (ls : s < S) (lo : o < S) (Ds : rs_D hc hr N s C n F) (Do : rs_D hc hr N o C n' F') : tu_W (f22 3 o (f22 2 s (tv_1 hc))) hr s o C ∧ rD (f22 3 o (f22 2 s (tv_1 hc))) (.inl 35) 0 = 0 ∧ ∀ w, w < 6 → (f22 3 o (f22 2 s (tv_1 hc))).2.1 (.inl 36) w = 0 := by
  have D1 := tv_D Ds
  obtain ⟨N1, K1, R1, -, L1⟩ := nl_load (t := 2) (a1 := nI s) I ls A1 A2 D1 (nI_toInt (by omega)) rfl
  have D2 := tv_D2 K1 (tv_D Do)
  obtain ⟨N2, K2, R2, -, L2⟩ := nl_load (t := 3) (a1 := nI o) I lo A1 A2 D2 (nI_toInt (by omega)) rfl
  have sc : ∀ t q i, q < 9 → (f22 3 o (f22 2 s (tv_1 hc))).2.1 (.inr (t, q)) i = hc.2.1 (.inr (t, q)) i := fun t q i hq => by
    rw [K2.2.2.2 t q i (by omega), K1.2.2.2 t q i (by omega), tv_1i]
  refine ⟨⟨Ds.2.1, by omega, by omega, ?_, ?_, Ds.2.2.2.2.1, fun c hc1 => ?_, fun c hc1 => ?_, fun i j hi hj => ?_, fun i j hi hj => ?_⟩, ?_, fun w hw => ?_⟩
  · unfold rD
    rw [sc s 0 0 (by decide +kernel)]
    exact Ds.2.2.2.1
  · unfold rD
    rw [sc o 0 0 (by decide +kernel)]
    exact Do.2.2.2.1
  · rw [sc s 1 c (by decide +kernel), sc s 2 c (by decide +kernel), sc s 3 c (by decide +kernel), sc s 4 c (by decide +kernel)]
    exact Ds.2.2.2.2.2.2.2.1 c hc1
  · rw [sc o 1 c (by decide +kernel), sc o 2 c (by decide +kernel), sc o 3 c (by decide +kernel), sc o 4 c (by decide +kernel)]
    exact Do.2.2.2.2.2.2.2.1 c hc1
  · rw [K2.2.2.2 2 34 _ (by omega), N1.2.2.2.2 i j hi hj, L1 i j hi hj]
  · rw [N2.2.2.2.2 i j hi hj, L2 i j hi hj]
  · unfold rD
    rw [K2.2.2.1, K1.2.2.1]
    show ((tv_1 hc).2.1 (.inl 35) 0).toInt = 0
    rw [show (tv_1 hc).2.1 (.inl 35) 0 = 0 from (tk_fl (by decide +kernel)).trans ((rI_i (by decide +kernel)).trans rI_s)]
    rfl
  · rw [K2.2.2.1, K1.2.2.1]
    exact if_pos ⟨rfl, hw⟩
theorem tv_main (I : nl_I hr S) (A1 : S ≤ 12) (A2 : N ≤ 200) (ls : s < S) (lo : o < S) (h1 : a1.toInt = (s : Int)) (h2 : a2.toInt = (o : Int)) (h3 : a3.toInt = (w : Int)) (Ds : rs_D hc hr N s C n F) (Do : rs_D hc hr N o C n' F') (hw : w < C) : ∃ f, f ≤ 50000 ∧ tu_S (f96 s o hc) (f230 a1 a2 a3 hr) w f := by
  obtain ⟨W, Z1, Z2⟩ := tv_W I A1 A2 ls lo Ds Do
  have C6 := W.1
  have ec : f96 s o hc = f97 s o 0 (f22 3 o (f22 2 s (tv_1 hc))) := by
    rw [f96_eq, k317 (n := 6) rfl (by decide +kernel)]
    simp only [x_h]
    exact if_pos (i_eq (p := (C : Int)) (q := (C : Int)) (by rw [show (k_f (mx_uI (mx_uI hc (.inl 35) 0 0) (.inl 35) 1 0) (.inl 36) 6 0) = tv_1 hc from rfl, tv_1i]; exact Ds.2.2.2.1) (by rw [show (k_f (mx_uI (mx_uI hc (.inl 35) 0 0) (.inl 35) 1 0) (.inl 36) 6 0) = tv_1 hc from rfl, tv_1i]; exact Do.2.2.2.1) rfl)
  have er : f230 a1 a2 a3 hr = f229 a1 a2 0 0 (mx_uI (mx_uI (mx_uI (mx_uI hr (.inl 105) 46 0) (.inl 105) 47 0) (.inl 105) 48 a3) (.inl 105) 49 0) := by
    rw [f230_eq]
    rfl
  have K0 := fun K L (hK : C ≤ K) (hL : C ≤ L) => Trec W h1 h2 hw C 0 K L (Nat.zero_add _) hK hL (fun _ => 0) 0 0 0 (f22 3 o (f22 2 s (tv_1 hc))) (mx_uI (mx_uI (mx_uI (mx_uI hr (.inl 105) 46 0) (.inl 105) 47 0) (.inl 105) 48 a3) (.inl 105) 49 0) 0 rfl rfl (fun _ _ => rfl) (((((show tr_F hr hr from fun _ _ _ _ => rfl).fs (by decide +kernel) (by decide +kernel)).fs (by decide +kernel) (by decide +kernel)).fs (by decide +kernel) (by decide +kernel)).fs (by decide +kernel) (by decide +kernel)) (fun j hj => absurd hj (Nat.not_lt_zero _)) ⟨0, by decide +kernel, rfl, fun t _ => ⟨fun q => absurd q (by rw [Nat.zero_testBit]; exact Bool.noConfusion), fun ⟨j, hj, _⟩ => absurd hj (Nat.not_lt_zero _)⟩⟩ ⟨Z1, by
      unfold rD
      rw [rI_i (by decide +kernel), rI_i (by decide +kernel), rI_i (by decide +kernel), rI_s]
      rfl, by
      rw [rI_i (by decide +kernel), rI_i (by decide +kernel), rI_s]
      exact Z2 w (by omega), by
      unfold rD
      rw [rI_i (by decide +kernel), rI_s]
      exact h3, rI_s, fun q => absurd rfl q⟩ (by
      have : 6 ^ C ≤ 6 ^ 6 := Nat.pow_le_pow_right (by decide +kernel) C6
      have : 6 ^ 6 = 46656 := by decide +kernel
      omega)
  have fc : f97 s o 0 (f22 3 o (f22 2 s (tv_1 hc))) = ff97 (C + 1) s o 0 (f22 3 o (f22 2 s (tv_1 hc))) := x_lim_eq (n := C + 1) (fun k hk => by
    obtain ⟨K, rfl⟩ : ∃ K, k = K + 1 := ⟨k - 1, by omega⟩
    exact (K0 K C (by omega) (Nat.le_refl _)).1)
  have fr : f229 a1 a2 0 0 (mx_uI (mx_uI (mx_uI (mx_uI hr (.inl 105) 46 0) (.inl 105) 47 0) (.inl 105) 48 a3) (.inl 105) 49 0) = ff229 (C + 1) a1 a2 0 0 (mx_uI (mx_uI (mx_uI (mx_uI hr (.inl 105) 46 0) (.inl 105) 47 0) (.inl 105) 48 a3) (.inl 105) 49 0) := x_lim_eq (n := C + 1) (fun k hk => by
    obtain ⟨L, rfl⟩ : ∃ L, k = L + 1 := ⟨k - 1, by omega⟩
    exact (K0 C L (Nat.le_refl _) (by omega)).2.1)
  obtain ⟨-, -, -, -, -, f', -, z5, z6⟩ := K0 C C (Nat.le_refl _) (Nat.le_refl _)
  rw [ec, er, fc, fr]
  refine ⟨f', ?_, z6⟩
  have : 6 ^ C ≤ 6 ^ 6 := Nat.pow_le_pow_right (by decide +kernel) C6
  have : 6 ^ 6 = 46656 := by decide +kernel
  omega
theorem tv_233 {C' : Nat} (I : nl_I hr S) (A1 : S ≤ 12) (A2 : N ≤ 200) (ls : s < S) (lo : o < S) (h1 : a1.toInt = (s : Int)) (h2 : a2.toInt = (o : Int)) (Ds : rs_D hc hr N s C n F) (Do : rs_D hc hr N o C' n' F') : (if (f96 s o hc).2.1 (.inl 35) 0 ≤ 0 then (-2 : Int32) else (f96 s o hc).2.1 (.inl 35) 1) = (f233 a1 a2 hr).1 ∧ ((f96 s o hc).2.1 (.inl 35) 0 = 0 ↔ (f96 s o hc).2.1 (.inl 35) 0 ≤ 0) ∧ (¬ (f96 s o hc).2.1 (.inl 35) 0 = 0 → 0 ≤ rD (f96 s o hc) (.inl 35) 1) := by
  have T := f233_eq a1 a2 hr
  rw [i_cl h1, i_cl h2] at T
  by_cases z : C = C'
  · subst z
    obtain ⟨f, f5, Z⟩ := tv_main (w := 0) (a3 := 0) I A1 A2 ls lo h1 h2 rfl Ds Do (by have := Ds.1; omega)
    rw [if_pos (i_eq Ds.2.2.2.2.1 Do.2.2.2.2.1 rfl)] at T
    simp only [x_h] at T
    obtain ⟨z1, z2, z3, z4, z5, z6⟩ := Z
    have z1' : ((f96 s o hc).2.1 (.inl 35) 0).toInt = (f : Int) := z1
    rw [z5] at T
    by_cases f0 : f = 0
    · rw [if_pos f0, if_pos rfl] at T
      rw [if_pos (i_le z1' k_0 (by omega)), T]
      exact ⟨rfl, ⟨fun _ => i_le z1' k_0 (by omega), fun _ => i_eq z1' k_0 (by omega)⟩, fun q => absurd (i_eq z1' k_0 (by omega)) q⟩
    · rw [if_neg f0, if_neg n10] at T
      rw [if_neg (i_nle z1' k_0 (by omega)), T]
      exact ⟨(z6 f0).1, ⟨fun q => absurd q (i_ne z1' k_0 (by omega)), fun q => absurd q (i_nle z1' k_0 (by omega))⟩, fun _ => (z6 f0).2⟩
  · have ec : f96 s o hc = tv_1 hc := by
      rw [f96_eq, k317 (n := 6) rfl (by decide +kernel)]
      simp only [x_h]
      exact if_neg (i_ne (p := (C : Int)) (q := (C' : Int)) (by rw [show (k_f (mx_uI (mx_uI hc (.inl 35) 0 0) (.inl 35) 1 0) (.inl 36) 6 0) = tv_1 hc from rfl, tv_1i]; exact Ds.2.2.2.1) (by rw [show (k_f (mx_uI (mx_uI hc (.inl 35) 0 0) (.inl 35) 1 0) (.inl 36) 6 0) = tv_1 hc from rfl, tv_1i]; exact Do.2.2.2.1) (by omega))
    have e0 : (tv_1 hc).2.1 (.inl 35) 0 = 0 := (tk_fl (by decide +kernel)).trans ((rI_i (by decide +kernel)).trans rI_s)
    rw [if_neg (i_ne Ds.2.2.2.2.1 Do.2.2.2.2.1 (by omega))] at T
    rw [ec, e0, T]
    exact ⟨if_pos (by decide +kernel), ⟨fun _ => by decide +kernel, fun _ => rfl⟩, fun q => absurd rfl q⟩
end TV
/-! ===== alike: two shapes side by side ===== -/
def pi_ (f : Nat → Int64) (L : List Nat) : Nat → Int64
  | 0 => 1
  | i + 1 => pi_ f L i * f (L.getD i 0)
/-- all free corners' weights, multiplied -/
noncomputable def pc_ (h : mx_H) (s : Nat) : Nat → Int64
  | 0 => 1
  | c + 1 => if h.2.1 (.inl 110) (6 * s + c) = 0 then pc_ h s c * Int32.toInt64 (f207 (h.2.1 (.inl 107) (6 * s + c)) (h.2.1 (.inl 109) (6 * s + c))) else pc_ h s c
/-- the class's side leaves the shapes and what both nets are -/
def al_F (H g : mx_H) : Prop := (∀ x o i, o ≤ 34 → ¬ (o = 30 ∧ i = 7) → g.2.1 (.inr (x, o)) i = H.2.1 (.inr (x, o)) i) ∧ g.2.2.2 = H.2.2.2
section ZS
variable {hc hr h g k H : mx_H} {S N s o C C' n n' F F' m b t : Nat} {a a1 a2 a3 : Int32} {f : Nat → Int64} {L : List Nat}
theorem pi_a {x : Nat} : ∀ i, i ≤ L.length → pi_ f (L ++ [x]) i = pi_ f L i
  | 0, _ => rfl
  | i + 1, hi => by
    show pi_ f (L ++ [x]) i * f ((L ++ [x]).getD i 0) = pi_ f L i * f (L.getD i 0)
    rw [pi_a i (by omega), fl_get (by omega)]
theorem pc_f (e : nl_F h g) : ∀ c, pc_ g s c = pc_ h s c
  | 0 => rfl
  | c + 1 => by
    show (if g.2.1 (.inl 110) (6 * s + c) = 0 then pc_ g s c * Int32.toInt64 (f207 (g.2.1 (.inl 107) (6 * s + c)) (g.2.1 (.inl 109) (6 * s + c))) else pc_ g s c) = (if h.2.1 (.inl 110) (6 * s + c) = 0 then pc_ h s c * Int32.toInt64 (f207 (h.2.1 (.inl 107) (6 * s + c)) (h.2.1 (.inl 109) (6 * s + c))) else pc_ h s c)
    rw [pc_f e c, e 110 _ (by decide +kernel) (by decide +kernel), e 107 _ (by decide +kernel) (by decide +kernel), e 109 _ (by decide +kernel) (by decide +kernel)]
theorem pi_c (ek : ∀ c, c < C → k.2.1 (.inl 130) c = hr.2.1 (.inl 110) (6 * s + c)) (ef : ∀ c, c < C → f c = Int32.toInt64 (f207 (hr.2.1 (.inl 107) (6 * s + c)) (hr.2.1 (.inl 109) (6 * s + c)))) : ∀ c, c ≤ C → pi_ f (fl k c) (fl k c).length = pc_ hr s c
  | 0, _ => rfl
  | c + 1, hc => by
    have ih := pi_c ek ef c (by omega)
    have e1 : fl k (c + 1) = if k.2.1 (.inl 130) c = 0 then fl k c ++ [c] else fl k c := rfl
    have e2 : pc_ hr s (c + 1) = if hr.2.1 (.inl 110) (6 * s + c) = 0 then pc_ hr s c * Int32.toInt64 (f207 (hr.2.1 (.inl 107) (6 * s + c)) (hr.2.1 (.inl 109) (6 * s + c))) else pc_ hr s c := rfl
    rw [e1, e2, ek c (by omega)]
    by_cases z : hr.2.1 (.inl 110) (6 * s + c) = 0
    · rw [if_pos z, if_pos z, List.length_append, ← ef c (by omega), ← ih]
      show pi_ f (fl k c ++ [c]) (fl k c).length * f ((fl k c ++ [c]).getD (fl k c).length 0) = _
      rw [pi_a _ (Nat.le_refl _), fl_end]
    · rw [if_neg z, if_neg z]
      exact ih
theorem P35 (hm : rD g (.inr (t, 30)) 7 = (m : Int)) (h36 : ∀ i, i < m → rD g (.inr (t, 36)) i = ((L.getD i 0 : Nat) : Int)) (m6 : m ≤ 6) : ∀ (j i : Nat) (x : Int32) (v : Int64), i + j = m → x.toInt = (i : Int) → v = pi_ (fun c => Int32.toInt64 (g.2.1 (.inr (t, 31)) c)) L i → g35_4 t v x g = pi_ (fun c => Int32.toInt64 (g.2.1 (.inr (t, 31)) c)) L m
  | 0, i, x, v, e, hx, hv => by
    have e2 : i = m := by omega
    rw [g35_4_eq, if_pos (i_le hm hx (by omega)), hv, e2]
  | j + 1, i, x, v, e, hx, hv => by
    rw [g35_4_eq, if_neg (i_nle hm hx (by omega)), i_cl hx, i_cl (h36 i (by omega))]
    exact P35 hm h36 m6 j (i + 1) (x + 1) _ (by omega) ((i_add hx k_1 (by omega) (by omega)).trans (by omega)) (by rw [hv]; rfl)
theorem P235 (h1 : a1.toInt = (s : Int)) (s12 : s ≤ 12) (c6 : C ≤ 6) (hC : rD h (.inl 106) s = (C : Int)) : ∀ (j c : Nat) (x : Int32) (v : Int64), c + j = C → x.toInt = ((6 * s + c : Nat) : Int) → v = pc_ h s c → g235_8 a1 v x h = pc_ h s C
  | 0, c, x, v, e, hx, hv => by
    have e2 : c = C := by omega
    have l := i_add (i_mul ivt_6 h1 (by omega) (by omega)) hC (by omega) (by omega)
    rw [g235_8_eq, i_cl h1, if_pos (i_le l hx (by omega)), hv, e2]
  | j + 1, c, x, v, e, hx, hv => by
    have l := i_add (i_mul ivt_6 h1 (by omega) (by omega)) hC (by omega) (by omega)
    have hx' := (i_add hx k_1 (by omega) (by omega)).trans (show ((6 * s + c : Nat) : Int) + 1 = ((6 * s + (c + 1) : Nat) : Int) by omega)
    have e2 : pc_ h s (c + 1) = if h.2.1 (.inl 110) (6 * s + c) = 0 then pc_ h s c * Int32.toInt64 (f207 (h.2.1 (.inl 107) (6 * s + c)) (h.2.1 (.inl 109) (6 * s + c))) else pc_ h s c := rfl
    rw [g235_8_eq, i_cl h1, if_neg (i_nle l hx (by omega)), i_cl hx]
    by_cases z : h.2.1 (.inl 110) (6 * s + c) = 0
    · rw [if_neg (fun w => w z)]
      exact P235 h1 s12 c6 hC j (c + 1) (x + 1) _ (by omega) hx' (by rw [e2, if_pos z, hv])
    · rw [if_pos z]
      exact P235 h1 s12 c6 hC j (c + 1) (x + 1) _ (by omega) hx' (by rw [e2, if_neg z, hv])
theorem f235_v (h1 : a1.toInt = (s : Int)) (s12 : s ≤ 12) (Ds : rs_D hc hr N s C n F) (fk : nl_F hr k) : f235 a1 k = pc_ hr s C := by
  rw [f235_eq, ← pc_f fk C]
  refine P235 h1 s12 Ds.2.1 ?_ C 0 (6 * a1) 1 (by omega) ((i_mul ivt_6 h1 (by omega) (by omega)).trans (by omega)) rfl
  unfold rD
  rw [fk 106 s (by decide +kernel) (by decide +kernel)]
  exact Ds.2.2.2.2.1
theorem al_F.refl : al_F h h := ⟨fun _ _ _ _ _ => rfl, rfl⟩
theorem al_cm {g' : mx_H} (A : al_F H g) (Q : cm_F g g' t) : al_F H g' := ⟨fun x o i h1 h2 => (Q.1 _ _ (fun e => by
  cases e
  omega) (fun e => by
  obtain ⟨e1, e2⟩ := e
  cases e1
  exact h2 ⟨rfl, e2⟩)).trans (A.1 x o i h1 h2), Q.2.2.trans A.2⟩
theorem al_N (N1 : nt_N H k t C) (A : al_F H g) : nt_N g k t C := by
  obtain ⟨n1, n2, n3, n4, n5⟩ := N1
  refine ⟨n1, ?_, n3, fun i hi => ?_, fun i j hi hj => ?_⟩
  · unfold rD
    rw [A.1 t 30 0 (by decide +kernel) (by decide +kernel)]
    exact n2
  · rw [A.1 t 31 i (by decide +kernel) (by omega), A.1 t 32 i (by decide +kernel) (by omega), A.1 t 33 i (by decide +kernel) (by omega)]
    exact n4 i hi
  · rw [A.1 t 34 _ (by decide +kernel) (by omega)]
    exact n5 i j hi hj
theorem al_G (A : al_F H g) : nl_G H g := ⟨fun s o i q => A.1 s o i (by omega) (by omega), A.2⟩
/-- the sums of one shape at one mark, on both sides -/
theorem al_1 {p : Int} (I : nl_I hr S) (S12 : S ≤ 12) (N200 : N ≤ 200) (ls : s < S) (Ds : rs_D hc hr N s C n F) (h1 : a1.toInt = (s : Int)) (N0 : ∀ k', nl_F hr k' → nt_N H (f208 a1 k') t C) (A : al_F H g) (fk : nl_F hr k) (st : mi_S k b) (hb : b < 2147483647) (h3 : a.toInt = p) (p0 : 0 ≤ p) (p9 : p ≤ 99) :
    ∃ (E : Int64) (m : Nat), cm_F g (f29 t a 1 g) t ∧ rD (f29 t a 1 g) (.inr (t, 30)) 7 = (m : Int) ∧ (f29 t a 1 g).2.2.1 (.inr (t, 35)) m = E ∧
      (∀ g', (∀ i, g'.2.1 (.inr (t, 31)) i = g.2.1 (.inr (t, 31)) i) → g'.2.1 (.inr (t, 30)) 7 = (f29 t a 1 g).2.1 (.inr (t, 30)) 7 → (∀ i, g'.2.1 (.inr (t, 36)) i = (f29 t a 1 g).2.1 (.inr (t, 36)) i) → f35 t g' = pc_ hr s C) ∧
      (f236 a1 a k).1 = E ∧ nl_F hr (f236 a1 a k).2 ∧ mi_S (f236 a1 a k).2 (b + 1) ∧ m ≤ 6 ∧ f195 a1 hr = nI m := by
  have Dk : rs_D hc k N s C n F := nl_D nl_G.refl fk Ds
  have Ik := nl_f I fk
  obtain ⟨NN, K, R, R3, R4⟩ := nl_load (t := 0) Ik ls S12 N200 Dk h1 rfl
  have V := nl_take Ik ls S12 N200 Dk h1
  have Ng := al_N (N0 k fk) A
  have len := fl_len (k := f208 a1 k) C
  have C6 := NN.1
  obtain ⟨c1, c2, c3, c4⟩ := S29 (a1 := a) (a2 := 1) Ng V h3 p0 p9 k_1 (by decide +kernel) (by decide +kernel)
  obtain ⟨r1, r2, r3, r4⟩ := S212 (a1 := a) (a2 := 1) NN.2.2.1 C6 V h3 k_1 (mi_Sf (fun i => R.2.2.2 136 i (by decide +kernel) (fun z => absurd z.1 (by decide +kernel))) (R.2.2.2 105 42 (by decide +kernel) (by decide +kernel)) st) hb
  have e236 : f236 a1 a k = ((f212 a 1 (f208 a1 k)).2.2.1 (.inl 133) (fl (f208 a1 k) C).length, f212 a 1 (f208 a1 k)) := by
    rw [f236_eq]
    simp only [x_h]
    rw [i_cl r2]
  have ek : ∀ c, c < C → (f208 a1 k).2.1 (.inl 130) c = hr.2.1 (.inl 110) (6 * s + c) := fun c hc => (R3 c hc).2.2.trans (fk 110 _ (by decide +kernel) (by decide +kernel))
  refine ⟨_, (fl (f208 a1 k) C).length, c1, c2, c4 _ (Nat.le_refl _), fun g' q1 q2 q3 => ?_, ?_, ?_, ?_, by omega, fl_t Ds (by omega) h1 (fun _ => rfl) (fun _ => rfl) ek⟩
  · rw [f35_eq]
    refine (P35 (L := fl (f208 a1 k) C) (m := (fl (f208 a1 k) C).length) ?_ (fun i hi => ?_) (by omega) _ 0 0 1 (Nat.zero_add _) rfl rfl).trans (pi_c ek (fun c hc => ?_) C (Nat.le_refl _))
    · unfold rD
      rw [q2]
      exact c2
    · unfold rD
      rw [q3]
      exact c3 i hi
    · show Int32.toInt64 (g'.2.1 (.inr (t, 31)) c) = _
      rw [q1, (Ng.2.2.2.1 c hc).1, (R3 c hc).1, fk 107 _ (by decide +kernel) (by decide +kernel), fk 109 _ (by decide +kernel) (by decide +kernel)]
  · rw [e236]
    exact r1 _ (Nat.le_refl _)
  · rw [e236]
    exact fun x i l1 l2 => (r4 (.inl x) i (ne_l (by omega)) (ne_l (by omega)) (fun e => absurd (Sum.inl.inj e.1) (by omega))).trans ((rn_f R x i l1 l2).trans (fk x i l1 l2))
  · rw [e236]
    exact r3
theorem al_w (I : nl_I hr S) (S12 : S ≤ 12) (N200 : N ≤ 200) (ls : s < S) (lo : o < S) (Ds : rs_D hc hr N s C n F) (Do : rs_D hc hr N o C' n' F') (h1 : a1.toInt = (s : Int)) (h2 : a2.toInt = (o : Int)) (N0 : ∀ k', nl_F hr k' → nt_N H (f208 a1 k') 0 C) (N1 : ∀ k', nl_F hr k' → nt_N H (f208 a2 k') 1 C') :
    ∀ (j p b : Nat) (x : Int32) {g k : mx_H}, p + j = 7 → x.toInt = (p : Int) → al_F H g → nl_F hr k → mi_S k b → b + 2 * j < 2147483647 →
    (f195 a1 hr = f195 a2 hr → (g34_2 0 1 x g).1 = (g237_17 a1 a2 x k).1 ∧ al_F H (g34_2 0 1 x g).2 ∧ nl_F hr (g237_17 a1 a2 x k).2) ∧ (¬ f195 a1 hr = f195 a2 hr → p < 7 → (g34_2 0 1 x g).1 = 0)
  | 0, p, b, x, g, k, e, hx, A, fk, st, hb => by
    refine ⟨fun _ => ?_, fun _ l => by omega⟩
    rw [g34_2_eq, if_pos (i_lt ivt_6 hx (by omega)), g237_17_eq, if_pos (i_le ivt_7 hx (by omega))]
    exact ⟨rfl, A, fk⟩
  | j + 1, p, b, x, g, k, e, hx, A, fk, st, hb => by
    obtain ⟨E0, m0, u1, u2, u3, u4, u5, u6, u7, u8, u9⟩ := al_1 (t := 0) I S12 N200 ls Ds h1 N0 A fk st (by omega) hx (by omega) (by omega)
    have A2 := al_cm A u1
    obtain ⟨E1, m1, v1, v2, v3, v4, v5, v6, v7, v8, v9⟩ := al_1 (t := 1) I S12 N200 lo Do h2 N1 A2 u6 u7 (by omega) hx (by omega) (by omega)
    have A4 := al_cm A2 v1
    have w2 : (f29 1 x 1 (f29 0 x 1 g)).2.1 (.inr (0, 30)) 7 = (f29 0 x 1 g).2.1 (.inr (0, 30)) 7 := v1.1 _ _ (fun q => by cases q) (fun q => by cases q.1)
    have w3 : ∀ i, (f29 1 x 1 (f29 0 x 1 g)).2.1 (.inr (0, 36)) i = (f29 0 x 1 g).2.1 (.inr (0, 36)) i := fun i => v1.1 _ _ (fun q => by cases q) (fun q => by cases q.1)
    have w4 : ∀ i, (f29 1 x 1 (f29 0 x 1 g)).2.1 (.inr (0, 31)) i = g.2.1 (.inr (0, 31)) i := fun i => (v1.1 _ _ (fun q => by cases q) (fun q => by cases q.1)).trans (u1.1 _ _ (fun q => by cases q) (fun q => by cases q.1))
    have w5 : ∀ i, (f29 1 x 1 (f29 0 x 1 g)).2.2.1 (.inr (0, 35)) i = (f29 0 x 1 g).2.2.1 (.inr (0, 35)) i := fun i => v1.2.1 _ _ (fun o ho q => by cases q)
    have w6 : ∀ i, (f29 1 x 1 (f29 0 x 1 g)).2.1 (.inr (1, 31)) i = (f29 0 x 1 g).2.1 (.inr (1, 31)) i := fun i => v1.1 _ _ (fun q => by cases q) (fun q => by cases q.1)
    have P0 := u4 (f29 1 x 1 (f29 0 x 1 g)) w4 w2 w3
    have P1 := v4 (f29 1 x 1 (f29 0 x 1 g)) w6 rfl (fun _ => rfl)
    have r0 : rD (f29 1 x 1 (f29 0 x 1 g)) (.inr (0, 30)) 7 = (m0 : Int) := (congrArg Int32.toInt w2).trans u2
    have cc : g34_2 0 1 x g = if (f29 1 x 1 (f29 0 x 1 g)).2.1 (.inr (0, 30)) 7 = (f29 1 x 1 (f29 0 x 1 g)).2.1 (.inr (1, 30)) 7 then (if (lg_cmp ((f29 1 x 1 (f29 0 x 1 g)).2.2.1 (.inr (0, 35)) m0 * f35 1 (f29 1 x 1 (f29 0 x 1 g))) ((f29 1 x 1 (f29 0 x 1 g)).2.2.1 (.inr (1, 35)) m0 * f35 0 (f29 1 x 1 (f29 0 x 1 g)))) = 0 then g34_2 0 1 (x + 1) (f29 1 x 1 (f29 0 x 1 g)) else (0, f29 1 x 1 (f29 0 x 1 g))) else (0, f29 1 x 1 (f29 0 x 1 g)) := by
      rw [g34_2_eq, if_neg (i_nlt ivt_6 hx (by omega))]
      simp only [x_h]
      rw [i_cl r0]
    refine ⟨fun q => ?_, fun q _ => ?_⟩
    · have em : m0 = m1 := by
        have e0 := congrArg Int32.toInt (u9.symm.trans (q.trans v9))
        rw [nI_toInt (by omega), nI_toInt (by omega)] at e0
        omega
      subst em
      have rr : g237_17 a1 a2 x k = if lg_cmp ((f236 a1 x k).1 * f235 a2 (f236 a1 x k).2) ((f236 a2 x (f236 a1 x k).2).1 * f235 a1 (f236 a2 x (f236 a1 x k).2).2) = 0 then g237_17 a1 a2 (x + 1) (f236 a2 x (f236 a1 x k).2).2 else (0, (f236 a2 x (f236 a1 x k).2).2) := by
        rw [g237_17_eq, if_neg (i_nle ivt_7 hx (by omega))]
        rfl
      rw [cc, rr, if_pos (i_eq r0 v2 rfl), w5, u3, v3, P0, P1, u5, v5, f235_v h2 (by omega) Do u6, f235_v h1 (by omega) Ds v6]
      by_cases z : lg_cmp (E0 * pc_ hr o C') (E1 * pc_ hr s C) = 0
      · rw [if_pos z, if_pos z]
        exact (al_w I S12 N200 ls lo Ds Do h1 h2 N0 N1 j (p + 1) (b + 2) (x + 1) (by omega) ((i_add hx k_1 (by omega) (by omega)).trans (by omega)) A4 v6 v7 (by omega)).1 q
      · rw [if_neg z, if_neg z]
        exact ⟨rfl, A4, v6⟩
    · have nm : ¬ m0 = m1 := fun w => q (by rw [u9, v9, w])
      rw [cc, if_neg (i_ne r0 v2 (by omega))]
theorem aw_alike (I : sf_I hr) (A : rs_A hc hr S N) (st : mi_S hr b) (hb : b + 300 < 2147483647) : (f119 a1 a2 a3 hc).1 = (f238 a1 a2 a3 hr).1 := by
  have K := f119_eq a1 a2 a3 hc
  have T := f238_eq a1 a2 a3 hr
  have S12 := A.1
  have N200 := A.2.1
  rcases C166 (a := a1) A with ⟨s, ls, h1, e1, e1'⟩ | ⟨e1, e1'⟩
  · rcases C166 (a := a2) A with ⟨o, lo, h2, e2, e2'⟩ | ⟨e2, e2'⟩
    · rw [e1, e2] at K
      simp only [x_opt] at K
      rw [if_neg (by rw [e1']; exact n10), if_neg (by rw [e2']; exact n10)] at T
      rw [w_ws] at K
      by_cases c3 : f173 a3 0 1 ≠ 0
      · rw [if_pos c3] at K T
        obtain ⟨C, n, F, Ds⟩ := (A.2.2.2.2.2.2.2.2.1 s ls).2
        obtain ⟨C', n', F', Do⟩ := (A.2.2.2.2.2.2.2.2.1 o lo).2
        have I' := nl_of I A.2.2.2.1
        have hN0 : ∀ k', nl_F hr k' → nt_N (f22 1 o (f22 0 s hc)) (f208 a1 k') 0 C := fun k' fk => by
          obtain ⟨NN, K0, -, -, -⟩ := nl_load (t := 0) (nl_f I' fk) ls S12 N200 (nl_D nl_G.refl fk Ds) h1 rfl
          obtain ⟨-, K1, -, -, -⟩ := nl_load (t := 1) (nl_f I' fk) lo S12 N200 (nl_D (kn_G K0) fk Do) h2 rfl
          obtain ⟨n1, n2, n3, n4, n5⟩ := NN
          refine ⟨n1, ?_, n3, fun i hi => ?_, fun i j hi hj => ?_⟩
          · unfold rD
            rw [K1.2.2.2 0 30 0 (by omega)]
            exact n2
          · rw [K1.2.2.2 0 31 i (by omega), K1.2.2.2 0 32 i (by omega), K1.2.2.2 0 33 i (by omega)]
            exact n4 i hi
          · rw [K1.2.2.2 0 34 _ (by omega)]
            exact n5 i j hi hj
        have hN1 : ∀ k', nl_F hr k' → nt_N (f22 1 o (f22 0 s hc)) (f208 a2 k') 1 C' := fun k' fk => by
          obtain ⟨NN, K0, -, -, -⟩ := nl_load (t := 0) (nl_f I' fk) ls S12 N200 (nl_D nl_G.refl fk Ds) h1 rfl
          exact (nl_load (t := 1) (nl_f I' fk) lo S12 N200 (nl_D (kn_G K0) fk Do) h2 rfl).1
        have G0 : nl_G hc (f22 1 o (f22 0 s hc)) := by
          obtain ⟨-, K0, -, -, -⟩ := nl_load (t := 0) I' ls S12 N200 Ds h1 rfl
          obtain ⟨-, K1, -, -, -⟩ := nl_load (t := 1) I' lo S12 N200 (nl_D (kn_G K0) nl_F.refl Do) h2 rfl
          exact (kn_G K0).trans (kn_G K1)
        obtain ⟨m1, m2⟩ := al_w I' S12 N200 ls lo Ds Do h1 h2 hN0 hN1 7 0 b 0 (g := f22 1 o (f22 0 s hc)) (k := hr) (by decide +kernel) rfl al_F.refl nl_F.refl st (by omega)
        have K2 : f119 a1 a2 a3 hc = if (g34_2 0 1 0 (f22 1 o (f22 0 s hc))).1 ≠ 0 then (if a3 ≠ 0 then (if (f96 s o (g34_2 0 1 0 (f22 1 o (f22 0 s hc))).2).2.1 (.inl 35) 0 ≠ 0 then (0, f96 s o (g34_2 0 1 0 (f22 1 o (f22 0 s hc))).2) else (1, f96 s o (g34_2 0 1 0 (f22 1 o (f22 0 s hc))).2)) else (1, (g34_2 0 1 0 (f22 1 o (f22 0 s hc))).2)) else (0, (g34_2 0 1 0 (f22 1 o (f22 0 s hc))).2) := by
          rw [K]
          simp only [x_h, x_let]
          rw [f34_eq]
        have T2 : f238 a1 a2 a3 hr = if (f237 a1 a2 hr).1 ≠ 0 then (if a3 = 0 then (1, (f237 a1 a2 hr).2) else (if (f233 a1 a2 (f237 a1 a2 hr).2).1 ≠ -2 then (0, (f233 a1 a2 (f237 a1 a2 hr).2).2) else (1, (f233 a1 a2 (f237 a1 a2 hr).2).2))) else (0, (f237 a1 a2 hr).2) := by
          rw [T]
          rfl
        by_cases q : f195 a1 hr = f195 a2 hr
        · obtain ⟨y1, y2, y3⟩ := m1 q
          rw [f237_eq, if_pos q] at T2
          generalize g34_2 0 1 0 (f22 1 o (f22 0 s hc)) = P at K2 y1 y2
          generalize g237_17 a1 a2 0 hr = R at T2 y1 y3
          rw [K2, T2, y1]
          by_cases z : R.1 ≠ 0
          · rw [if_pos z, if_pos z]
            by_cases z3 : a3 = 0
            · rw [if_neg (fun w => w z3), if_pos z3]
            · rw [if_pos z3, if_neg z3]
              have GP := G0.trans (al_G y2)
              obtain ⟨x1, x2, x3⟩ := tv_233 (hc := P.2) (hr := R.2) (nl_f I' y3) S12 N200 ls lo h1 h2 (nl_D GP y3 Ds) (nl_D GP y3 Do)
              by_cases w : (f96 s o P.2).2.1 (.inl 35) 0 = 0
              · rw [if_pos (x2.mp w)] at x1
                rw [if_neg (fun v => v w), if_neg (fun v => v x1.symm)]
              · rw [if_neg (fun v => w (x2.mpr v))] at x1
                have d := x3 w
                rw [if_pos w, ← x1, if_pos (i_ne (rfl : rD (f96 s o P.2) (.inl 35) 1 = rD (f96 s o P.2) (.inl 35) 1) k_m2 (by omega))]
          · rw [if_neg z, if_neg z]
        · have y := m2 q (by decide +kernel)
          rw [f237_eq, if_neg q] at T2
          rw [K2, T2, y, if_neg (fun w => w rfl)]
          rfl
      · rw [if_neg c3] at K T
        rw [K, T]
    · rw [e1, e2] at K
      simp only [x_opt] at K
      rw [if_neg (by rw [e1']; exact n10), if_pos e2'] at T
      rw [K, T]
  · rw [e1] at K
    simp only [x_opt] at K
    rw [if_pos e1'] at T
    rw [T, K]
    split <;> rfl
end ZS
