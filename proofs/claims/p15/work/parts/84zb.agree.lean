/-! ===== 84yb: nets that are alike among the first C; tones of shapes, one behind the other ===== -/
section MYB
variable {h g hc hr k k' gc gr : mx_H} {S N C n F s t c b m i : Nat} {a a1 a2 a3 a4 a5 x y : Int32} {p q : Int} {e e' : Nat → Int64}
def nt_q (k k' : mx_H) (C : Nat) : Prop := (∀ i, i < C → k'.2.1 (.inl 128) i = k.2.1 (.inl 128) i ∧ k'.2.1 (.inl 129) i = k.2.1 (.inl 129) i ∧ k'.2.1 (.inl 130) i = k.2.1 (.inl 130) i) ∧ ∀ i j, i < C → j < C → k'.2.1 (.inl 131) (6 * i + j) = k.2.1 (.inl 131) (6 * i + j)
theorem nt_qf (Q : nt_q k k' C) : ∀ c, c ≤ C → fl k' c = fl k c
  | 0, _ => rfl
  | c + 1, hc => by
    unfold fl
    rw [nt_qf Q c (by omega), (Q.1 c (by omega)).2.2]
theorem nt_qz (Q : nt_q k k' C) {a : Nat} (ha : a < C) : ∀ c, c ≤ C → zs k' a c = zs k a c
  | 0, _ => rfl
  | c + 1, hc => by
    unfold zs rD
    rw [nt_qz Q ha c (by omega), Q.2 a c ha (by omega)]
theorem nt_qm (Q : nt_q k k' C) {L : List Nat} (hL : ∀ i, i < L.length → L.getD i 0 < C) {i j : Nat} (hi : i < L.length) (hj : j < L.length) : zm k' L C p q i j = zm k L C p q i j := by
  have li := hL i hi
  have lj := hL j hj
  unfold zm
  rw [nt_qz Q li C (Nat.le_refl _)]
  unfold rD
  rw [(Q.1 _ li).1, (Q.1 _ li).2.1, Q.2 _ _ li lj]
theorem zc_c2 : ∀ n, (∀ i, i ≤ n → e i = e' i) → zc e n = zc e' n
  | 0, _ => rfl
  | n + 1, hh => by
    unfold zc
    rw [hh (n + 1) (Nat.le_refl _), zc_c2 n (fun i hi => hh i (by omega))]
theorem nt_qb (C6 : C ≤ 6) (Q : nt_q k k' C) : fb k' C q = fb k C q := funext (fun p => by
  have fe := nt_qf Q C (Nat.le_refl _)
  have len := fl_len (k := k) C
  unfold fb
  rw [fe]
  congr 1
  refine zc_c2 _ (fun n hn => ?_)
  unfold ze
  rw [fe]
  congr 1
  exact zE_c (by omega) hn (fun i j hi hj => by
    rw [zB_v (by omega) (by omega), zB_v (by omega) (by omega), nt_qm Q (fun i hi => fl_gl hi) hi hj, nt_qm Q (fun i hi => fl_gl hi) hj hi]))
/-- loaded from heaps whose shapes are alike -/
theorem nl_q (I : nl_I hr S) (hs : s < S) (s12 : S ≤ 12) (N200 : N ≤ 200) (Ds : rs_D hc hr N s C n F) (h1 : a1.toInt = (s : Int)) (f : nl_F hr gr) : nt_q (f208 a1 hr) (f208 a1 gr) C := by
  obtain ⟨-, -, -, r1, r2⟩ := nl_load (t := 0) I hs s12 N200 Ds h1 rfl
  obtain ⟨-, -, -, r3, r4⟩ := nl_load (t := 0) (nl_f I f) hs s12 N200 (nl_D (nl_G.refl (h := hc)) f Ds) h1 rfl
  refine ⟨fun i hi => ?_, fun i j hi hj => ?_⟩
  · rw [(r1 i hi).1, (r1 i hi).2.1, (r1 i hi).2.2, (r3 i hi).1, (r3 i hi).2.1, (r3 i hi).2.2, f 107 _ (by decide) (by decide), f 109 _ (by decide) (by decide), f 108 _ (by decide) (by decide), f 110 _ (by decide) (by decide)]
    exact ⟨rfl, rfl, rfl⟩
  · rw [r2 i j hi hj, r4 i j hi hj]
    unfold rn_l rD
    rw [f 113 _ (by decide) (by decide), f 111 _ (by decide) (by decide), f 112 _ (by decide) (by decide)]
theorem f166_c (e : g.2.1 (.inl 0) 2 = hc.2.1 (.inl 0) 2) (G : nl_G hc g) : f166 a g = f166 a hc := by
  rw [f166_eq, f166_eq, e, G.2]
/-- one shape asked for: the class and the reference -/
theorem ag_in (A : rs_A hc hr S N) (e : g.2.1 (.inl 0) 2 = hc.2.1 (.inl 0) 2) (G : nl_G hc g) (f : nl_F hr gr) (e1 : gr.2.1 (.inl 105) 1 = hr.2.1 (.inl 105) 1) : (∃ s C n F : Nat, s < S ∧ a.toInt = (s : Int) ∧ f166 a g = some s ∧ f177 a gr = 1 ∧ rs_D hc hr N s C n F ∧ f60 s g = f195 a hr ∧ f195 a gr = f195 a hr) ∨ (f166 a g = none ∧ f177 a gr = 0) := by
  have e7 : f177 a gr = f177 a hr := by rw [f177_eq, f177_eq, e1]
  rw [f166_c e G, e7]
  rcases C166 (a := a) A with ⟨s, lt, h1, y1, y2⟩ | y
  · obtain ⟨C, n, F, Ds⟩ := (A.2.2.2.2.2.2.2.2.1 s lt).2
    have s12 := A.1
    have t1 := aw_tones (nl_D G nl_F.refl Ds) (by omega) h1
    have t2 := aw_tones (nl_D (nl_G.refl (h := hc)) f Ds) (by omega) h1
    have t3 := aw_tones Ds (by omega) h1
    exact Or.inl ⟨s, C, n, F, lt, h1, y1, y2, Ds, t1, t2.symm.trans t3⟩
  · exact Or.inr y
/-! the told SHAPES in order -/
def ag_i (a1 : Int32) (i : Nat) : Int32 := (a1 >>> ((4 * nI i) &&& 31)) &&& 15
def ag_ok (hr : mx_H) (a1 : Int32) (i : Nat) : Prop := f177 (ag_i a1 i) hr ≠ 0 ∧ f195 (ag_i a1 i) hr ≠ 0
noncomputable def ag_t (hr : mx_H) (a1 : Int32) (i : Nat) : Nat := zt (fb (f208 (ag_i a1 i) hr) (rD hr (.inl 106) (ag_i a1 i).toNatClampNeg).toNat 9) 0
def ag_C (hc hr g : mx_H) (a1 : Int32) (c : Nat) : Prop := nl_G hc g ∧ (∀ x i, x ≠ 83 → g.2.1 (.inl x) i = hc.2.1 (.inl x) i) ∧ ∀ i, i < c → g.2.1 (.inl 83) i = nI (ag_t hr a1 i)
theorem S140 (A : rs_A hc hr S N) (I : nl_I hr S) (n7 : n ≤ 7) : ∀ (j c : Nat) {g : mx_H}, c + j = n → ag_C hc hr g a1 c → (∃ g', g140_46 a1 (nI n) a3 a4 (nI c) g = g140_46 a1 (nI n) a3 a4 (nI n) g' ∧ ag_C hc hr g' a1 n ∧ ∀ i, c ≤ i → i < n → ag_ok hr a1 i) ∨ ((g140_46 a1 (nI n) a3 a4 (nI c) g).1 = -1 ∧ ∃ i, c ≤ i ∧ i < n ∧ ¬ ag_ok hr a1 i)
  | 0, c, g, e, G => by
    have ec : c = n := by omega
    subst ec
    exact Or.inl ⟨g, rfl, G, fun i h1 h2 => by omega⟩
  | j + 1, c, g, e, G => by
    obtain ⟨G1, G2, G3⟩ := G
    have st : g140_46 a1 (nI n) a3 a4 (nI c) g = (x_opt (f166 (ag_i a1 c) g) (fun j9 => (if (f60 j9 g) ≠ 0 then (x_h (f22 0 j9 g) (fun h14 => (x_let (f33 0 0 9 h14) (fun x17 h16 => (g140_46 a1 (nI n) a3 a4 (nI c + 1) (mx_uI h16 (.inl 83) (Int32.toNatClampNeg (nI c)) x17)))))) else (((-1) : Int32), g))) (((-1) : Int32), g)) := by
      rw [g140_46_eq, if_neg (i_nle (nI_toInt (n := n) (by omega)) (nI_toInt (n := c) (by omega)) (by omega))]
      rfl
    rcases ag_in (a := ag_i a1 c) (gr := hr) A (G2 0 2 (by decide)) G1 nl_F.refl rfl with ⟨s, C, m, F, lt, h1, y1, y2, Ds, y3, y4⟩ | ⟨y1, y2⟩
    · rw [y1] at st
      simp only [x_opt, x_h, x_let] at st
      by_cases z : f195 (ag_i a1 c) hr = 0
      · rw [if_neg (fun w => w (y3.trans z))] at st
        exact Or.inr ⟨by rw [st], c, Nat.le_refl _, by omega, fun w => w.2 z⟩
      · rw [if_pos (fun w => z (y3.symm.trans w))] at st
        have Dg := nl_D G1 (nl_F.refl (h := hr)) Ds
        have s12 := A.1
        obtain ⟨NN, K, R, R3, R4⟩ := nl_load (t := 0) I lt A.1 A.2.1 Dg h1 rfl
        have V := nl_take I lt A.1 A.2.1 Dg h1
        obtain ⟨t1, t2⟩ := TTc (i := 0) (a1 := 0) (a2 := 9) NN V rfl (show (9 : Int32).toInt = 9 from rfl) (by decide) (by decide)
        have tc : zt (fb (f208 (ag_i a1 c) hr) C 9) 0 = ag_t hr a1 c := by
          unfold ag_t
          rw [i_cl h1, Ds.2.2.2.2.1]
          rfl
        rw [tc] at t1
        rw [t1, i_cl (nI_toInt (n := c) (by omega)), nI_s] at st
        rcases S140 A I n7 j (c + 1) (g := mx_uI (f33 0 0 9 (f22 0 s g)).2 (.inl 83) c (nI (ag_t hr a1 c))) (by omega) ⟨⟨fun s' o i ho => by
          rw [rI_a (fun e => by cases e), cm_s t2 (by omega), K.2.2.2 s' o i (by omega)]
          exact G1.1 s' o i ho, t2.2.2.trans ((by rw [K.2.1] : (f22 0 s g).2.2.2 = g.2.2.2).trans G1.2)⟩, fun x i hx => by
          rw [rI_a (ne_l hx), t2.1 _ _ (fun e => by cases e) (fun e => by cases e.1), K.2.2.1]
          exact G2 x i hx, fun i hi => by
          by_cases ic : i = c
          · rw [ic, rI_s]
          · rw [rI_i ic, t2.1 _ _ (fun e => by cases e) (fun e => by cases e.1), K.2.2.1]
            exact G3 i (by omega)⟩ with ⟨g', w1, w2, w3⟩ | ⟨w1, i, w2, w3, w4⟩
        · exact Or.inl ⟨g', st.trans w1, w2, fun i l1 l2 => by
            by_cases ic : i = c
            · rw [ic]
              exact ⟨by rw [y2]; exact n10, z⟩
            · exact w3 i (by omega) l2⟩
        · exact Or.inr ⟨by rw [st]; exact w1, i, by omega, w3, w4⟩
    · rw [y1] at st
      simp only [x_opt] at st
      exact Or.inr ⟨by rw [st], c, Nat.le_refl _, by omega, fun w => w.1 y2⟩
/-! the reference: first all are asked for -/
def ag_R (hr g : mx_H) (a1 : Int32) (c : Nat) : Prop := (∀ x i, x ≠ 160 → g.2.1 (.inl x) i = hr.2.1 (.inl x) i) ∧ ∀ i, i < c → g.2.1 (.inl 160) i = ag_i a1 i
theorem R48 (A : rs_A hc hr S N) (n7 : n ≤ 7) : ∀ (j c : Nat) {g : mx_H}, c + j = n → ag_R hr g a1 c → (∃ g', g277_48 a1 (nI n) a3 a4 (nI c) g = g277_48 a1 (nI n) a3 a4 (nI n) g' ∧ ag_R hr g' a1 n ∧ ∀ i, c ≤ i → i < n → ag_ok hr a1 i) ∨ ((g277_48 a1 (nI n) a3 a4 (nI c) g).1 = -1 ∧ ∃ i, c ≤ i ∧ i < n ∧ ¬ ag_ok hr a1 i)
  | 0, c, g, e, G => by
    have ec : c = n := by omega
    subst ec
    exact Or.inl ⟨g, rfl, G, fun i h1 h2 => by omega⟩
  | j + 1, c, g, e, G => by
    obtain ⟨G2, G3⟩ := G
    have st : g277_48 a1 (nI n) a3 a4 (nI c) g = (if (f177 (ag_i a1 c) g) = 0 then (((-1) : Int32), g) else (if (f195 (ag_i a1 c) g) ≠ 0 then (g277_48 a1 (nI n) a3 a4 (nI c + 1) (mx_uI g (.inl 160) (Int32.toNatClampNeg (nI c)) (ag_i a1 c))) else (((-1) : Int32), g))) := by
      rw [g277_48_eq, if_neg (i_nle (nI_toInt (n := n) (by omega)) (nI_toInt (n := c) (by omega)) (by omega))]
      rfl
    have f : nl_F hr g := fun x i h1 h2 => G2 x i (by omega)
    rcases ag_in (a := ag_i a1 c) (g := hc) (gr := g) A rfl nl_G.refl f (G2 105 1 (by decide)) with ⟨s, C, m, F, lt, h1, y1, y2, Ds, y3, y4⟩ | ⟨y1, y2⟩
    · have y7 : f177 (ag_i a1 c) hr = 1 := by
        rw [← y2, f177_eq, f177_eq, G2 105 1 (by decide)]
      rw [if_neg (by rw [y2]; exact n10)] at st
      by_cases z : f195 (ag_i a1 c) hr = 0
      · rw [if_neg (fun w => w (y4.trans z))] at st
        exact Or.inr ⟨by rw [st], c, Nat.le_refl _, by omega, fun w => w.2 z⟩
      · rw [if_pos (fun w => z (y4.symm.trans w)), i_cl (nI_toInt (n := c) (by omega)), nI_s] at st
        rcases R48 A n7 j (c + 1) (g := mx_uI g (.inl 160) c (ag_i a1 c)) (by omega) ⟨fun x i hx => (rI_a (ne_l hx)).trans (G2 x i hx), fun i hi => by
          by_cases ic : i = c
          · rw [ic, rI_s]
          · rw [rI_i ic]
            exact G3 i (by omega)⟩ with ⟨g', w1, w2, w3⟩ | ⟨w1, i, w2, w3, w4⟩
        · exact Or.inl ⟨g', st.trans w1, w2, fun i l1 l2 => by
            by_cases ic : i = c
            · rw [ic]
              exact ⟨by rw [y7]; exact n10, z⟩
            · exact w3 i (by omega) l2⟩
        · exact Or.inr ⟨by rw [st]; exact w1, i, by omega, w3, w4⟩
    · have y7 : f177 (ag_i a1 c) hr = 0 := by
        rw [← y2, f177_eq, f177_eq, G2 105 1 (by decide)]
      rw [if_pos y2] at st
      exact Or.inr ⟨by rw [st], c, Nat.le_refl _, by omega, fun w => w.1 y7⟩
/-- then their lowest tones -/
def ag_W (hr g : mx_H) (a1 : Int32) (n c b : Nat) : Prop := (∀ x i, ¬ (128 ≤ x ∧ x ≤ 137) → x ≠ 160 → x ≠ 161 → x ≠ 105 → g.2.1 (.inl x) i = hr.2.1 (.inl x) i) ∧ (∀ i, i ≠ 35 → i ≠ 37 → i ≠ 42 → g.2.1 (.inl 105) i = hr.2.1 (.inl 105) i) ∧ (∀ i, i < n → g.2.1 (.inl 160) i = ag_i a1 i) ∧ (∀ i, i < c → g.2.1 (.inl 161) i = nI (ag_t hr a1 i)) ∧ mi_S g (b + 7 * c)
theorem R116 (A : rs_A hc hr S N) (I : nl_I hr S) (n7 : n ≤ 7) (hb : b + 100 < 2147483647) (ok : ∀ i, i < n → ag_ok hr a1 i) : ∀ (j c : Nat) {g : mx_H}, c + j = n → ag_W hr g a1 n c b → ∃ g', g277_116 (nI n) a3 a4 (nI c) g = g277_116 (nI n) a3 a4 (nI n) g' ∧ ag_W hr g' a1 n n b
  | 0, c, g, e, G => by
    have ec : c = n := by omega
    subst ec
    exact ⟨g, rfl, G⟩
  | j + 1, c, g, e, G => by
    obtain ⟨G1, G2, G3, G4, G5⟩ := G
    have f : nl_F hr g := fun x i h1 h2 => G1 x i (by omega) (by omega) (by omega) (by omega)
    have st : g277_116 (nI n) a3 a4 (nI c) g = g277_116 (nI n) a3 a4 (nI (c + 1)) (mx_uI (f220 0 9 (f208 (ag_i a1 c) g)).2 (.inl 161) c (f220 0 9 (f208 (ag_i a1 c) g)).1) := by
      rw [g277_116_eq, if_neg (i_nle (nI_toInt (n := n) (by omega)) (nI_toInt (n := c) (by omega)) (by omega)), i_cl (nI_toInt (n := c) (by omega)), G3 c (by omega), nI_s]
      rfl
    have o := ok c (by omega)
    rcases ag_in (a := ag_i a1 c) (g := hc) (gr := g) A rfl nl_G.refl f (G2 1 (by decide) (by decide) (by decide)) with ⟨s, C, m, F, lt, h1, y1, y2, Ds, y3, y4⟩ | ⟨y1, y2⟩
    · have Dg := nl_D (nl_G.refl (h := hc)) f Ds
      obtain ⟨NN, K, R, R3, R4⟩ := nl_load (t := 0) (nl_f I f) lt A.1 A.2.1 Dg h1 rfl
      have V := nl_take (nl_f I f) lt A.1 A.2.1 Dg h1
      have q := nl_q I lt A.1 A.2.1 Ds h1 f
      obtain ⟨t1, t2, t3⟩ := TTs (i := 0) (a1 := 0) (a2 := 9) NN.2.2.1 NN.1 V (rn_Fs R G5) (by omega) rfl (show (9 : Int32).toInt = 9 from rfl) (by decide) (by decide)
      have tc : zt (fb (f208 (ag_i a1 c) g) C 9) 0 = ag_t hr a1 c := by
        unfold ag_t
        rw [i_cl h1, Ds.2.2.2.2.1, nt_qb NN.1 q]
        rfl
      rw [tc] at t1
      rw [t1] at st
      obtain ⟨g', w1, w2⟩ := R116 A I n7 hb ok j (c + 1) (g := mx_uI (f220 0 9 (f208 (ag_i a1 c) g)).2 (.inl 161) c (nI (ag_t hr a1 c))) (by omega) ⟨fun x i q1 q2 q3 q4 => by
        rw [rI_a (ne_l q3), t2 _ _ (ne_l (by omega)) (ne_l (by omega)) (ne_l (by omega)) (fun e => absurd e.1 (ne_l q4)), R.2.2.2 x i (by omega) (fun e => q4 e.1)]
        exact G1 x i q1 q2 q3 q4, fun i q1 q2 q3 => by
        rw [rI_a (ne_l (by decide)), t2 _ _ (ne_l (by decide)) (ne_l (by decide)) (ne_l (by decide)) (fun e => by omega), R.2.2.2 105 i (by omega) (fun e => q1 e.2)]
        exact G2 i q1 q2 q3, fun i hi => by
        rw [rI_a (ne_l (by decide)), t2 _ _ (ne_l (by decide)) (ne_l (by decide)) (ne_l (by decide)) (fun e => absurd e.1 (ne_l (by decide))), R.2.2.2 160 i (by omega) (fun e => by omega)]
        exact G3 i hi, fun i hi => by
        by_cases ic : i = c
        · rw [ic, rI_s]
        · rw [rI_i ic, t2 _ _ (ne_l (by decide)) (ne_l (by decide)) (ne_l (by decide)) (fun e => absurd e.1 (ne_l (by decide))), R.2.2.2 161 i (by omega) (fun e => by omega)]
          exact G4 i (by omega), mi_Sf (fun i => rI_a (ne_l (by decide))) (rI_a (ne_l (by decide))) (t3.up (by omega))⟩
      exact ⟨g', st.trans w1, w2⟩
    · have y7 : f177 (ag_i a1 c) hr = 0 := by
        rw [← y2, f177_eq, f177_eq, G2 1 (by decide) (by decide) (by decide)]
      exact absurd y7 o.1
end MYB
