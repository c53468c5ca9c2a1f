/-! ===== 84yg: CRACKS that FIT, both sides ===== -/
section MYG
variable {h g hc hr k gc gr h0 k0 : mx_H} {S N C n F s c b m i t u v : Nat} {a1 a2 a3 a4 x y : Int32}
def un_l (hr : mx_H) (s u v : Nat) : Int32 := if 0 < rD hr (.inl 113) (36 * s + 6 * u + v) then hr.2.1 (.inl 111) (36 * s + 6 * u + v) else 0
def un_L (hr : mx_H) (s F c u v : Nat) : Int32 := if 0 < rD hr (.inl 113) (36 * s + 6 * u + v) ∧ rD hr (.inl 113) (36 * s + 6 * u + v) ≤ ((F + c : Nat) : Int) then hr.2.1 (.inl 111) (36 * s + 6 * u + v) else rn_l hr s u v
/-- c pieces without their cracks -/
def un_C (hc hr h0 g : mx_H) (s C F c : Nat) : Prop := (∀ o i, o ≠ 34 → g.2.1 (.inr (0, o)) i = h0.2.1 (.inr (0, o)) i) ∧ nl_G hc g ∧ (∀ x i, g.2.1 (.inl x) i = h0.2.1 (.inl x) i) ∧ ∀ u v, u < C → v < C → g.2.1 (.inr (0, 34)) (6 * u + v) = un_L hr s F c u v
theorem C31 (Ds : rs_D hc hr N s C n F) (n15 : n ≤ 15) (N200 : N ≤ 200) : ∀ (j c : Nat) {g : mx_H}, c + j = n → un_C hc hr h0 g s C F c → ∃ g', g13_31 s 0 a3 (nI c) g = g13_31 s 0 a3 (nI n) g' ∧ un_C hc hr h0 g' s C F n
  | 0, c, g, e, U => ⟨g, by rw [show c = n by omega], (show c = n by omega) ▸ U⟩
  | j + 1, c, g, e, U => by
    obtain ⟨U1, U2, U3, U4⟩ := U
    obtain ⟨c1, c6, fn, d1, d2, d3, d4, d5, d6, d7, d8, d9, d10⟩ := id Ds
    have en : rD g (.inr (s, 0)) 6 = n := (congrArg Int32.toInt (U2.1 s 0 6 (by decide))).trans d3
    obtain ⟨u, v, Q⟩ := d7 c (by omega)
    obtain ⟨o1, o2, o3, o4, o5, o6, o7, o8, o9, o10, o11, o12, o13⟩ := id Q
    have z1 := w6 o4 o5 (show min u v ≤ 12 by omega) (show max u v < 6 by omega)
    have z2 := w6 o5 o4 (show max u v ≤ 12 by omega) (show min u v < 6 by omega)
    have st : g13_31 s 0 a3 (nI c) g = g13_31 s 0 a3 (nI (c + 1)) (mx_uI (mx_uI g (.inr (0, 34)) (6 * min u v + max u v) (hc.2.1 (.inr (s, 7)) c)) (.inr (0, 34)) (6 * max u v + min u v) (hc.2.1 (.inr (s, 7)) c)) := by
      rw [g13_31_eq, if_neg (i_nle en (nI_toInt (n := c) (by omega)) (by omega)), nI_cl (by omega), U2.1 s 5 c (by decide), U2.1 s 6 c (by decide), U2.1 s 7 c (by decide)]
      simp only [x_h]
      rw [f26_eq, i_cl z1, i_cl z2, nI_s]
    obtain ⟨g', w1, w2⟩ := C31 Ds n15 N200 j (c + 1) (g := mx_uI (mx_uI g (.inr (0, 34)) (6 * min u v + max u v) (hc.2.1 (.inr (s, 7)) c)) (.inr (0, 34)) (6 * max u v + min u v) (hc.2.1 (.inr (s, 7)) c)) (by omega) ⟨fun o i ho => (rI_a (ne_o ho)).trans ((rI_a (ne_o ho)).trans (U1 o i ho)), ⟨fun s' o i ho => (rI_a (fun e => by
      cases e
      omega)).trans ((rI_a (fun e => by
      cases e
      omega)).trans (U2.1 s' o i ho)), U2.2⟩, fun y i => (rI_a (fun e => by cases e)).trans ((rI_a (fun e => by cases e)).trans (U3 y i)), fun a b ha hb => by
      rw [r2w]
      by_cases z : (a = u ∧ b = v) ∨ (a = v ∧ b = u)
      · rw [if_pos (by omega)]
        unfold un_L
        rcases z with ⟨z1, z2⟩ | ⟨z1, z2⟩
        · rw [z1, z2, o6, if_pos ⟨by omega, by omega⟩, o8]
        · rw [z1, z2, o7, if_pos ⟨by omega, by omega⟩, o9]
      · rw [if_neg (by omega), U4 a b ha hb]
        have ne : ¬ rD hr (.inl 113) (36 * s + 6 * a + b) = ((F + c + 1 : Nat) : Int) := fun w => by
          rcases d8 a b (by omega) (by omega) with q | ⟨k, hk, q | q⟩
          · rw [show rD hr (.inl 113) (36 * s + 6 * a + b) = 0 from congrArg Int32.toInt q] at w
            omega
          · obtain ⟨p1, p2, p3, p4, p5, p6, -⟩ := q
            have ek : k = c := by omega
            subst ek
            omega
          · obtain ⟨p1, p2, p3, p4, p5, p6, p7, -⟩ := q
            have ek : k = c := by omega
            subst ek
            omega
        unfold un_L
        by_cases q : 0 < rD hr (.inl 113) (36 * s + 6 * a + b) ∧ rD hr (.inl 113) (36 * s + 6 * a + b) ≤ ((F + c : Nat) : Int)
        · rw [if_pos q, if_pos ⟨q.1, by omega⟩]
        · rw [if_neg q, if_neg (fun w => q ⟨w.1, by omega⟩)]⟩
    exact ⟨g', st.trans w1, w2⟩
/-! the reference -/
theorem V45 (h1 : a1.toInt = (s : Int)) (s12 : s ≤ 12) (C6 : C ≤ 6) (u6 : u < C) : ∀ (j c : Nat) {g : mx_H}, c + j = C → (∀ i, g.2.1 (.inl 113) i = hr.2.1 (.inl 113) i) → (∀ i, g.2.1 (.inl 111) i = hr.2.1 (.inl 111) i) → rD g (.inl 105) 35 = C → ∃ g', g251_45 a1 a2 (nI u) (nI c) g = g251_34 a1 a2 (nI (u + 1)) g' ∧ (∀ q i, ¬ (q = .inl 131 ∧ 6 * u + c ≤ i ∧ i < 6 * u + C) → g'.2.1 q i = g.2.1 q i) ∧ ∀ v, c ≤ v → v < C → g'.2.1 (.inl 131) (6 * u + v) = un_l hr s u v
  | 0, c, g, e, e3, e1, hC => by
    refine ⟨g, ?_, fun _ _ _ => rfl, fun v l1 l2 => by omega⟩
    rw [g251_45_eq, if_pos (i_le hC (nI_toInt (n := c) (by omega)) (by omega)), nI_s]
  | j + 1, c, g, e, e3, e1, hC => by
    have hu := nI_toInt (n := u) (by omega)
    have hc := nI_toInt (n := c) (by omega)
    have st : g251_45 a1 a2 (nI u) (nI c) g = g251_45 a1 a2 (nI u) (nI (c + 1)) (mx_uI g (.inl 131) (6 * u + c) (un_l hr s u c)) := by
      rw [g251_45_eq, if_neg (i_nle hC hc (by omega)), f180_eq, i_cl (w179 h1 hu hc s12 (by omega) (by omega)), i_cl (w6 hu hc (by omega) (by omega)), e3, e1, nI_s]
      unfold un_l
      by_cases p : 0 < rD hr (.inl 113) (36 * s + 6 * u + c)
      · rw [if_pos p, if_neg (i_nle rfl k_0 p), if_neg n10]
      · rw [if_neg p, if_pos (i_le rfl k_0 (Int.not_lt.mp p)), if_pos rfl]
    obtain ⟨g', w1, w2, w3⟩ := V45 h1 s12 C6 u6 j (c + 1) (g := mx_uI g (.inl 131) (6 * u + c) (un_l hr s u c)) (by omega) (fun i => (rI_a (ne_l (by decide))).trans (e3 i)) (fun i => (rI_a (ne_l (by decide))).trans (e1 i)) ((congrArg Int32.toInt (rI_a (ne_l (by decide)))).trans hC)
    refine ⟨g', st.trans w1, fun q i hq => (w2 q i (fun w => hq ⟨w.1, by omega, by omega⟩)).trans (if_neg (fun w => hq ⟨w.1, by omega, by omega⟩)), fun v l1 l2 => ?_⟩
    by_cases z : v = c
    · rw [z, w2 _ _ (fun w => by omega), rI_s]
    · exact w3 v (by omega) l2
theorem V34 (h1 : a1.toInt = (s : Int)) (s12 : s ≤ 12) (C6 : C ≤ 6) (k3 : ∀ i, k0.2.1 (.inl 113) i = hr.2.1 (.inl 113) i) (k1 : ∀ i, k0.2.1 (.inl 111) i = hr.2.1 (.inl 111) i) (kC : rD k0 (.inl 105) 35 = C) : ∀ (j c : Nat) {g : mx_H}, c + j = C → (∀ q i, q ≠ .inl 131 → g.2.1 q i = k0.2.1 q i) → (∀ i v, i < c → v < C → g.2.1 (.inl 131) (6 * i + v) = un_l hr s i v) → ∃ g', g251_34 a1 a2 (nI c) g = g251_34 a1 a2 (nI C) g' ∧ (∀ q i, q ≠ .inl 131 → g'.2.1 q i = k0.2.1 q i) ∧ ∀ i v, i < C → v < C → g'.2.1 (.inl 131) (6 * i + v) = un_l hr s i v
  | 0, c, g, e, f, L => ⟨g, by rw [show c = C by omega], f, fun i v hi hv => L i v (by omega) hv⟩
  | j + 1, c, g, e, f, L => by
    have gC : rD g (.inl 105) 35 = C := (congrArg Int32.toInt (f _ _ (ne_l (by decide)))).trans kC
    obtain ⟨g1, w1, w2, w3⟩ := V45 (a2 := a2) (hr := hr) h1 s12 C6 (show c < C by omega) C 0 (g := g) (by omega) (fun i => (f _ _ (ne_l (by decide))).trans (k3 i)) (fun i => (f _ _ (ne_l (by decide))).trans (k1 i)) gC
    have st : g251_34 a1 a2 (nI c) g = g251_45 a1 a2 (nI c) (nI 0) g := by
      rw [g251_34_eq, if_neg (i_nle gC (nI_toInt (n := c) (by omega)) (by omega))]
      rfl
    obtain ⟨g', y1, y2, y3⟩ := V34 h1 s12 C6 k3 k1 kC j (c + 1) (g := g1) (by omega) (fun q i hq => (w2 q i (fun w => hq w.1)).trans (f q i hq)) (fun i v hi hv => by
      by_cases z : i = c
      · rw [z]
        exact w3 v (Nat.zero_le _) hv
      · rw [w2 _ _ (fun w => by omega)]
        exact L i v (by omega) hv)
    exact ⟨g', st.trans (w1.trans y1), y2, y3⟩
theorem V7 : ∀ (j c : Nat) {g : mx_H}, c + j = 600 → ∃ g', g251_7 a1 a2 (nI c) g = g251_7 a1 a2 (nI 600) g' ∧ ∀ q i, q ≠ .inl 148 → g'.2.1 q i = g.2.1 q i
  | 0, c, g, e => ⟨g, by rw [show c = 600 by omega], fun _ _ _ => rfl⟩
  | j + 1, c, g, e => by
    have st : g251_7 a1 a2 (nI c) g = g251_7 a1 a2 (nI (c + 1)) (mx_uI g (.inl 148) c 0) := by
      rw [g251_7_eq, if_neg (i_nle (show (600 : Int32).toInt = 600 from rfl) (nI_toInt (n := c) (by omega)) (by omega)), nI_cl (by omega), nI_s]
    obtain ⟨g', w1, w2⟩ := V7 j (c + 1) (g := mx_uI g (.inl 148) c 0) (by omega)
    exact ⟨g', st.trans w1, fun q i hq => (w2 q i hq).trans (rI_a hq)⟩
/-- both nets, without cracks -/
theorem nt_un (I : nl_I hr S) (hs : s < S) (S12 : S ≤ 12) (N200 : N ≤ 200) (Ds : rs_D hc hr N s C n F) (h1 : a1.toInt = (s : Int)) (N0 : nt_N h0 k0 0 C) (V0 : nt_V k0 C) (U1 : ∀ o i, o ≠ 34 → g.2.1 (.inr (0, o)) i = h0.2.1 (.inr (0, o)) i) (U4 : ∀ u v, u < C → v < C → g.2.1 (.inr (0, 34)) (6 * u + v) = un_L hr s F n u v) (f : ∀ q i, q ≠ .inl 131 → gr.2.1 q i = k0.2.1 q i) (L : ∀ i v, i < C → v < C → gr.2.1 (.inl 131) (6 * i + v) = un_l hr s i v) : nt_N g gr 0 C ∧ nt_V gr C := by
  obtain ⟨n1, n2, n3, n4, n5⟩ := N0
  obtain ⟨c1, c6, fn, d1, d2, d3, d4, d5, d6, d7, d8, d9, d10⟩ := id Ds
  refine ⟨⟨n1, ?_, ?_, fun i hi => ?_, fun i j hi hj => ?_⟩, fun i hi => ?_, fun i j hi hj => ⟨?_, ?_⟩⟩
  · unfold rD
    rw [U1 30 0 (by decide)]
    exact n2
  · unfold rD
    rw [f _ _ (ne_l (by decide))]
    exact n3
  · unfold rD
    rw [U1 31 i (by decide), U1 32 i (by decide), U1 33 i (by decide), f _ _ (ne_l (by decide)), f _ _ (ne_l (by decide)), f _ _ (ne_l (by decide))]
    exact n4 i hi
  · rw [U4 i j hi hj, L i j hi hj]
    unfold un_L un_l
    by_cases q : 0 < rD hr (.inl 113) (36 * s + 6 * i + j)
    · have z2 : rD hr (.inl 113) (36 * s + 6 * i + j) ≤ ((F + n : Nat) : Int) := by
        rcases d8 i j (by omega) (by omega) with w | ⟨k, hk, w | w⟩
        · have z : rD hr (.inl 113) (36 * s + 6 * i + j) = 0 := congrArg Int32.toInt w
          omega
        · obtain ⟨p1, p2, p3, p4, p5, p6, -⟩ := w
          omega
        · obtain ⟨p1, p2, p3, p4, p5, p6, p7, -⟩ := w
          omega
      rw [if_pos q, if_pos ⟨q, z2⟩]
    · rw [if_neg q, if_neg (fun w => q w.1)]
      exact if_neg q
  · unfold rD
    rw [f _ _ (ne_l (by decide)), f _ _ (ne_l (by decide))]
    exact V0.1 i hi
  · unfold rD
    rw [L i j hi hj]
    unfold un_l
    by_cases q : 0 < rD hr (.inl 113) (36 * s + 6 * i + j)
    · rw [if_pos q]
      exact (I.2.2.2.2.1 _).1
    · rw [if_neg q]
      exact ⟨by decide, by decide⟩
  · unfold rD
    rw [L i j hi hj, L j i hj hi]
    congr 1
    unfold un_l
    have fin : ∀ k u v, rs_k hc hr s C F k u v → 0 < rD hr (.inl 113) (36 * s + 6 * u + v) ∧ 0 < rD hr (.inl 113) (36 * s + 6 * v + u) ∧ hr.2.1 (.inl 111) (36 * s + 6 * u + v) = hr.2.1 (.inl 111) (36 * s + 6 * v + u) := fun k u v w => by
      obtain ⟨o1, o2, o3, o4, o5, o6, o7, o8, o9, o10, o11, o12, o13⟩ := w
      exact ⟨by omega, by omega, o8.trans o9.symm⟩
    have bk : ∀ u v, u < C → v < C → 0 < rD hr (.inl 113) (36 * s + 6 * u + v) → 0 < rD hr (.inl 113) (36 * s + 6 * v + u) ∧ hr.2.1 (.inl 111) (36 * s + 6 * u + v) = hr.2.1 (.inl 111) (36 * s + 6 * v + u) := fun u v hu hv q => by
      rcases d8 u v (by omega) (by omega) with w | ⟨k, hk, w | w⟩
      · have z : rD hr (.inl 113) (36 * s + 6 * u + v) = 0 := congrArg Int32.toInt w
        omega
      · obtain ⟨y1, y2, y3⟩ := fin _ _ _ w
        exact ⟨y2, y3⟩
      · obtain ⟨y1, y2, y3⟩ := fin _ _ _ w
        exact ⟨y1, y3.symm⟩
    by_cases q : 0 < rD hr (.inl 113) (36 * s + 6 * i + j)
    · obtain ⟨y1, y2⟩ := bk i j hi hj q
      rw [if_pos q, if_pos y1, y2]
    · rw [if_neg q, if_neg (fun w => q (bk j i hj hi w).1)]
theorem aw_fits (I : sf_I hr) (A : rs_A hc hr S N) (st : mi_S hr b) (hb : b + 200000 < 2147483647) (H : rv_h hc hr) : (f126 a1 a2 a3 hc).1 = (f252 a1 a2 a3 hr).1 := by
  obtain ⟨t, t6, t1, t2, t3⟩ := H
  have K := f126_eq a1 a2 a3 hc
  have T := f252_eq a1 a2 a3 hr
  rw [w_ws, w_ws] at K
  rcases C166 (a := a1) A with ⟨s, lt, h1, e1, e1'⟩ | ⟨e1, e1'⟩
  · obtain ⟨C, n, F, Ds⟩ := (A.2.2.2.2.2.2.2.2.1 s lt).2
    obtain ⟨c1, c6, fn, d1, d2, d3, d4, d5, d6, d7, d8, d9, d10⟩ := id Ds
    have S12 := A.1
    have N200 := A.2.1
    rw [e1] at K
    simp only [x_opt] at K
    rw [if_neg (by rw [e1']; exact n10)] at T
    by_cases c2 : (1 : Int) ≤ a2.toInt ∧ a2.toInt ≤ 9
    · rw [w173_1 (x := a2) rfl k_1 (show (9 : Int32).toInt = 9 from rfl) c2, if_neg n10] at K T
      by_cases c3 : (0 : Int) ≤ a3.toInt ∧ a3.toInt ≤ 2
      · rw [w173_1 (x := a3) rfl k_0 (show (2 : Int32).toInt = 2 from rfl) c3] at K T
        rw [if_pos n10] at K
        rw [if_neg n10, ← aw_tones Ds (by omega) h1] at T
        have I' := nl_of I A.2.2.2.1
        obtain ⟨-, -, R0, R3, R4⟩ := nl_load (t := 0) I' lt S12 N200 Ds h1 rfl
        have len := fl_len (k := f208 a1 hr) C
        have f95 : ∀ g, fx_F hr g → f195 a1 g = nI (fl (f208 a1 hr) C).length := fun g w => fl_t Ds (by omega) h1 (fun i => w.1 106 i (by omega) (by decide) (by decide)) (fun i => w.1 110 i (by omega) (by decide) (by decide)) (fun i hi => (R3 i hi).2.2)
        have tn := (aw_tones Ds (by omega) h1).trans (f95 hr fx_F.refl)
        generalize hm : (fl (f208 a1 hr) C).length = m at *
        rw [tn] at K T
        have tk := nI_toInt (n := m) (by omega)
        by_cases tm : t ≤ m
        · rw [if_pos (show hc.2.1 (.inl 68) 0 ≤ nI m from i_le t1 tk (by omega))] at K
          rw [if_pos (show hr.2.1 (.inl 105) 65 ≤ nI m from i_le t2 tk (by omega))] at T
          -- the class begins
          have n15 : n ≤ 15 := by
            rw [d9]
            unfold sd_C
            exact List.length_filter_le _ _
          obtain ⟨hA, hh1⟩ : ∃ hA, k_f (mx_uI (mx_uI (mx_uI hc (.inl 68) 2 0) (.inl 68) 3 (-1)) (.inl 68) 4 0) (.inl 70) 600 0 = hA := ⟨_, rfl⟩
          have eA : f13 s 0 a2 hc = g13_31 s 0 a2 0 (f22 0 s hA) := by
            rw [f13_eq, k317 (n := 600) rfl (by decide), ← hh1]
            rfl
          have gA : ∀ q i, q ≠ .inl 70 → hA.2.1 q i = (mx_uI (mx_uI (mx_uI hc (.inl 68) 2 0) (.inl 68) 3 (-1)) (.inl 68) 4 0).2.1 q i := fun q i hq => by
            rw [← hh1]
            exact if_neg (fun e => hq e.1)
          have gB : ∀ x i, x ≠ 70 → x ≠ 68 → hA.2.1 (.inl x) i = hc.2.1 (.inl x) i := fun x i h1 h2 => by
            rw [gA _ _ (ne_l h1), rI_a (ne_l h2), rI_a (ne_l h2), rI_a (ne_l h2)]
          have GA : nl_G hc hA := ⟨fun s o i _ => by
            rw [gA _ _ (fun e => by cases e), rI_a (fun e => by cases e), rI_a (fun e => by cases e), rI_a (fun e => by cases e)], by
            rw [← hh1]
            rfl⟩
          -- the reference begins
          obtain ⟨gR, v1, v2⟩ := V7 (a1 := a1) (a2 := a2) 600 0 (g := mx_uI hr (.inl 105) 67 0) (by omega)
          have eR : f251 a1 a2 hr = g251_34 a1 a2 (nI 0) (f208 a1 gR) := by
            have e0 := f251_eq a1 a2 hr
            rw [show g251_7 a1 a2 0 (mx_uI hr (.inl 105) 67 0) = g251_7 a1 a2 (nI 600) gR from v1, g251_7_eq, if_pos (by decide)] at e0
            exact e0
          have fR : nl_F hr gR := fun x i h1 h2 => (v2 _ _ (ne_l (by omega))).trans (rI_a (ne_l (by omega)))
          obtain ⟨N0, KF, RF, -, -⟩ := nl_load (t := 0) (nl_f I' fR) lt S12 N200 (nl_D GA fR Ds) h1 rfl
          have V0 := nl_take (nl_f I' fR) lt S12 N200 (nl_D GA fR Ds) h1
          -- without cracks
          have s12 : s ≤ 12 := by omega
          obtain ⟨gK, k1, k2⟩ := C31 (a3 := a2) (h0 := f22 0 s hA) Ds n15 N200 n 0 (g := f22 0 s hA) (by omega) ⟨fun _ _ _ => rfl, GA.trans (kn_G KF), fun _ _ => rfl, fun u v hu hv => by
            rw [N0.2.2.2.2 u v hu hv, (nl_load (t := 0) (nl_f I' fR) lt S12 N200 (nl_D GA fR Ds) h1 rfl).2.2.2.2 u v hu hv]
            unfold un_L
            rw [if_neg (fun w => ?_)]
            · unfold rn_l rD
              rw [fR 113 _ (by decide) (by decide), fR 111 _ (by decide) (by decide), fR 112 _ (by decide) (by decide)]
            · rcases d8 u v (by omega) (by omega) with q | ⟨k, hk, q | q⟩
              · rw [show rD hr (.inl 113) (36 * s + 6 * u + v) = 0 from congrArg Int32.toInt q] at w
                omega
              · obtain ⟨p1, p2, p3, p4, p5, p6, -⟩ := q
                omega
              · obtain ⟨p1, p2, p3, p4, p5, p6, p7, -⟩ := q
                omega⟩
          obtain ⟨kR, y1, y2, y3⟩ := V34 (a2 := a2) (hr := hr) (k0 := f208 a1 gR) h1 s12 c6 (fun i => (rn_f RF 113 i (by decide) (by decide)).trans (fR 113 i (by decide) (by decide))) (fun i => (rn_f RF 111 i (by decide) (by decide)).trans (fR 111 i (by decide) (by decide))) N0.2.2.1 C 0 (g := f208 a1 gR) (by omega) (fun _ _ _ => rfl) (fun i v hi => absurd hi (Nat.not_lt_zero _))
          obtain ⟨NN, VV⟩ := nt_un (g := gK) (gr := kR) I' lt S12 N200 Ds h1 N0 V0 k2.1 k2.2.2.2 y2 y3
          have fK : fc_F hc gK := ⟨k2.2.1, fun x i h1 h2 => by
            rw [k2.2.2.1, KF.2.2.1]
            exact gB x i h2 h1, by
            rw [k2.2.2.1, KF.2.2.1, gA _ _ (ne_l (by decide)), rI_i (by decide), rI_i (by decide), rI_i (by decide)]⟩
          have r7 : ∀ x i, ¬ (128 ≤ x ∧ x ≤ 131) → ¬ (x = 105 ∧ i = 35) → x ≠ 148 → kR.2.1 (.inl x) i = (mx_uI hr (.inl 105) 67 0).2.1 (.inl x) i := fun x i q1 q2 q3 => by
            rw [y2 _ _ (ne_l (by omega)), RF.2.2.2 x i q1 q2, v2 _ _ (ne_l q3)]
          have fX : fx_F hr kR := ⟨fun x i q1 q2 q3 => (r7 x i (by omega) (by omega) q2).trans (rI_a (ne_l q3)), fun i q0 _ _ q3 _ _ => (r7 105 i (by omega) (by omega) (by decide)).trans (rI_i q3)⟩
          have sK : mi_S kR b := mi_Sf (fun i => (r7 136 i (by omega) (by omega) (by decide)).trans (rI_a (ne_l (by decide)))) ((r7 105 42 (by omega) (by omega) (by decide)).trans (rI_i (by decide))) st
          have q68 : gK.2.1 (.inl 68) 2 = 0 := by
            rw [k2.2.2.1, KF.2.2.1, gA _ _ (ne_l (by decide)), rI_i (by decide), rI_i (by decide), rI_s]
          have q67 : kR.2.1 (.inl 105) 67 = 0 := (r7 105 67 (by omega) (by omega) (by decide)).trans rI_s
          have W0 : wi hc hr gK kR C F n b 0 := ⟨NN, VV, sK.up (by omega), fK, fX, ft_R0 q68 q67⟩
          have D : wt hc hr a1 m t := ⟨by omega, tm, t1, t2, t3, f95⟩
          have W1 := wi_try (a3 := -1) (a4 := -1) (a5 := 0) W0 D (by omega) (by decide) (rfl : a2.toInt = a2.toInt) c2.1 c2.2 (Or.inl ⟨rfl, rfl⟩)
          obtain ⟨g', gr', T', w1, w2, w3, w4⟩ := W90 (a1 := a1) D Ds (rs_Hm A Ds (fun _ _ => rfl)) (fun P hP => by
            obtain ⟨u, v, Q⟩ := d7 P hP
            obtain ⟨o1, o2, o3, o4, o5, o6, o7, o8, -⟩ := Q
            have e := I'.2.2.2.2.2.2 (36 * s + 6 * u + v) (by omega) (by rw [o6]; omega)
            have e9 := (I'.2.2.2.2.1 (36 * s + 6 * u + v)).1.2
            unfold rD at e e9 ⊢
            rw [o8] at e e9
            exact ⟨e, e9⟩) n15 N200 A.2.2.2.2.2.1 h1 s12 (rfl : a2.toInt = a2.toInt) c2.1 c2.2 (b := b) (by omega) N 0 0 1 (by omega) (by omega) (by omega) W1
          have cK : g13_31 s 0 a2 0 (f22 0 s hA) = g' := by
            rw [show (0 : Int32) = nI 0 from rfl, k1, g13_31_eq, if_pos (i_le ((congrArg Int32.toInt (k2.2.1.1 s 0 6 (by decide))).trans d3) (nI_toInt (n := n) (by omega)) (Int.le_refl _))]
            simp only [x_val, x_h]
            rw [aw_tones (nl_D k2.2.1 nl_F.refl Ds) (by omega) h1, f95 hr fx_F.refl]
            exact w1
          have cR : f251 a1 a2 hr = gr' := by
            rw [eR, y1, g251_34_eq, if_pos (i_le ((congrArg Int32.toInt (y2 _ _ (ne_l (by decide)))).trans N0.2.2.1) (nI_toInt (n := C) (by omega)) (Int.le_refl _))]
            simp only [x_h]
            exact w2
          rw [show f13 s 0 a2 hc = g' from eA.trans cK] at K
          rw [cR] at T
          simp only [x_h] at K T
          obtain ⟨w, x1, x2, x3, x4⟩ := w4.2.2.2.2.2
          rw [K, T, x2, x3]
          by_cases z3 : a3 = 0
          · rw [if_neg (fun q => q z3), if_neg (fun q => q z3)]
          · rw [if_pos z3, if_pos z3]
            by_cases z : w = 0
            · rw [z, if_neg (by decide), if_neg (by decide)]
            · have nw : nI w ≠ 0 := i_ne (nI_toInt (n := w) (by omega)) k_0 (by omega)
              rw [if_pos nw, if_pos nw]
              obtain ⟨x5, x6⟩ := x4 z
              rcases (show a3.toInt = 1 ∨ a3.toInt = 2 by
                have : a3.toInt ≠ 0 := fun q => z3 (i_eq q k_0 rfl)
                omega) with y | y
              · have e3 : a3 = 1 := i_eq y k_1 rfl
                subst e3
                rw [if_pos (show (1 : Int32) ≠ 2 by decide), if_neg (show ¬ (1 : Int32) ≠ 1 by decide)]
                rcases x6 with ⟨x7, x8⟩ | ⟨k, kn, x7, x8⟩
                · rw [x7, x8, if_neg (by decide)]
                · have eF : g'.2.1 (.inr (s, 0)) 5 = nI F := i_eq ((congrArg Int32.toInt (w4.2.2.2.1.1.1 s 0 5 (by decide))).trans d4) (nI_toInt (n := F) (by omega)) rfl
                  rw [x7, x8, if_pos (i_le k_0 (nI_toInt (n := k) (by omega)) (by omega)), eF, nI_add]
              · have e3 : a3 = 2 := i_eq y k_2 rfl
                subst e3
                rw [if_neg (show ¬ (2 : Int32) ≠ 2 by decide), if_pos (show (2 : Int32) ≠ 1 by decide), x5]
        · rw [if_neg (show ¬ hc.2.1 (.inl 68) 0 ≤ nI m from i_nle t1 tk (by omega))] at K
          rw [if_neg (show ¬ hr.2.1 (.inl 105) 65 ≤ nI m from i_nle t2 tk (by omega))] at T
          rw [K, T]
      · rw [w173_0 (x := a3) rfl k_0 (show (2 : Int32).toInt = 2 from rfl) c3] at K T
        rw [if_neg (fun q => q rfl)] at K
        rw [if_pos rfl] at T
        rw [K, T]
    · rw [w173_0 (x := a2) rfl k_1 (show (9 : Int32).toInt = 9 from rfl) c2, if_pos rfl] at K T
      rw [K, T]
  · rw [e1] at K
    simp only [x_opt] at K
    rw [if_pos e1'] at T
    rw [K, T]
end MYG
