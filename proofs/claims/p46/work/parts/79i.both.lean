/-! ===== join(): two shapes copied into the draft, on both sides ===== -/
section RBB
variable {h h' h'' g hc hr c2 c4 r0 r1 r2 r3 r4 r5 : mx_H} {S N s s1 s2 i j n o c C C1 C2 n1 n2 F1 F2 : Nat} {a a1 a2 a3 a4 sS : Int32}
def k_t (h : mx_H) (s c : Nat) : Nat := if rz_g h s c = true then 1 else 0
theorem k_tc {l : List Nat} : sd_C (c :: l) (rz_g h s) = sd_C l (rz_g h s) + k_t h s c := sd_C_cons
theorem R183 (h1 : a1.toInt = (s : Int)) (hs : s ≤ 12) (nn : ∀ p, 0 ≤ rD h (.inl 113) p) : (f183 a1 h).toInt = ((sd_C sd_CL (rz_g h s) : Nat) : Int) := by
  rw [f183_eq]
  have st : ∀ (i m : Nat) (a2 a3 : Int32), i < 6 → m ≤ 50 → a2.toInt = (m : Int) → a3.toInt = (i : Int) → ∃ b : Int32, b.toInt = ((m + k_row h s i (5 - i) (i + 1) : Nat) : Int) ∧ m + k_row h s i (5 - i) (i + 1) ≤ m + 5 ∧ g183_4 a1 a2 a3 h = g183_4 a1 b (a3 + 1) h := fun i m a2 a3 hi hm h2 h3 => by
    have e : g183_4 a1 a2 a3 h = g183_15 a1 a2 a3 (a3 + 1) h := by rw [g183_4_eq, if_neg (i_nle k_6 h3 (by omega))]
    obtain ⟨b, b1, b2, b3⟩ := R183r h1 h3 hs hi nn (5 - i) (i + 1) m a2 (a3 + 1) (by omega) (by omega) h2 ((i_add h3 k_1 (by omega) (by omega)).trans (by omega))
    exact ⟨b, b1, by omega, e.trans b3⟩
  obtain ⟨b0, e0, l0, g0⟩ := st 0 0 0 0 (by omega) (by omega) rfl rfl
  obtain ⟨b1, e1, l1, g1⟩ := st 1 _ b0 (0 + 1) (by omega) (by omega) e0 rfl
  obtain ⟨b2, e2, l2, g2⟩ := st 2 _ b1 (0 + 1 + 1) (by omega) (by omega) e1 rfl
  obtain ⟨b3, e3, l3, g3⟩ := st 3 _ b2 (0 + 1 + 1 + 1) (by omega) (by omega) e2 rfl
  obtain ⟨b4, e4, l4, g4⟩ := st 4 _ b3 (0 + 1 + 1 + 1 + 1) (by omega) (by omega) e3 rfl
  obtain ⟨b5, e5, l5, g5⟩ := st 5 _ b4 (0 + 1 + 1 + 1 + 1 + 1) (by omega) (by omega) e4 rfl
  have t0 : k_row h s 0 (5 - 0) (0 + 1) = k_t h s 1 + (k_t h s 2 + (k_t h s 3 + (k_t h s 4 + (k_t h s 5 + 0)))) := rfl
  have t1 : k_row h s 1 (5 - 1) (1 + 1) = k_t h s 8 + (k_t h s 9 + (k_t h s 10 + (k_t h s 11 + 0))) := rfl
  have t2 : k_row h s 2 (5 - 2) (2 + 1) = k_t h s 15 + (k_t h s 16 + (k_t h s 17 + 0)) := rfl
  have t3 : k_row h s 3 (5 - 3) (3 + 1) = k_t h s 22 + (k_t h s 23 + 0) := rfl
  have t4 : k_row h s 4 (5 - 4) (4 + 1) = k_t h s 29 + 0 := rfl
  have t5 : k_row h s 5 (5 - 5) (5 + 1) = 0 := rfl
  have key : sd_C sd_CL (rz_g h s) = 0 + k_t h s 29 + k_t h s 23 + k_t h s 22 + k_t h s 17 + k_t h s 16 + k_t h s 15 + k_t h s 11 + k_t h s 10 + k_t h s 9 + k_t h s 8 + k_t h s 5 + k_t h s 4 + k_t h s 3 + k_t h s 2 + k_t h s 1 := by
    unfold sd_CL
    rw [k_tc, k_tc, k_tc, k_tc, k_tc, k_tc, k_tc, k_tc, k_tc, k_tc, k_tc, k_tc, k_tc, k_tc, k_tc]
    rfl
  rw [g0, g1, g2, g3, g4, g5, g183_4_eq, if_pos (show (6 : Int32) ≤ 0 + 1 + 1 + 1 + 1 + 1 + 1 by decide +kernel), e5]
  omega
theorem kc_F.W (F : kc_F h g S s1 o c) : rz_FW S h g := ⟨F.1, F.2.1, fun k i _ => F.2.2.1 k i, fun s x i q => F.2.2.2.1 s x i (fun t => q ⟨t.1, by omega⟩)⟩
theorem rj_c.W (F : rj_c S h g) : rz_FW S h g := ⟨F.1, F.2.1, fun k i _ => F.2.2.1 k i, fun s x i q => F.2.2.2 s x i (fun t => q ⟨t.1, by omega⟩)⟩
/-- the reference: no more than the new shape's places and bodies -/
def rw_r (N S : Nat) (h g : mx_H) : Prop := g.1 = h.1 ∧ g.2.2 = h.2.2 ∧ (∀ q i, g.2.1 (.inr q) i = h.2.1 (.inr q) i) ∧ ∀ k i, ¬ rz_w S k i → ¬ (k = 105 ∧ i = 12) → ¬ ((k = 116 ∨ k = 117) ∧ N ≤ i) → g.2.1 (.inl k) i = h.2.1 (.inl k) i
theorem rw_r.trans (a : rw_r N S h h') (b : rw_r N S h' h'') : rw_r N S h h'' := ⟨b.1.trans a.1, b.2.1.trans a.2.1, fun k i => (b.2.2.1 k i).trans (a.2.2.1 k i), fun k i p q r => (b.2.2.2 k i p q r).trans (a.2.2.2 k i p q r)⟩
theorem rz_FR.W (a : rz_FR S h g) : rw_r N S h g := ⟨a.1, a.2.1, a.2.2.1, fun k i q _ _ => a.2.2.2 k i q⟩
theorem rc_F.W (a : rc_F h g S s1 o c) : rw_r N S h g := ⟨a.1, a.2.1, a.2.2.1, fun k i q _ _ => a.2.2.2.1 k i (fun t => q (by unfold rz_w; omega))⟩
theorem rj_r.W (a : rj_r N S h g) : rw_r N S h g := ⟨a.1, a.2.1, a.2.2.1, fun k i q p r => a.2.2.2 k i (fun t => q (by unfold rz_w; omega)) p r⟩
theorem rw_r.e (a : rw_r N S h g) (hs : s < S) : rs_er s h g := fun k i w => by
  unfold rs_w at w
  exact a.2.2.2 k i (by unfold rz_w; omega) (by omega) (by omega)
theorem rw_r.l (a : rw_r N S h g) (hi : i < N) : g.2.1 (.inl 116) i = h.2.1 (.inl 116) i ∧ g.2.1 (.inl 117) i = h.2.1 (.inl 117) i := ⟨a.2.2.2 116 i (by unfold rz_w; omega) (by omega) (by omega), a.2.2.2 117 i (by unfold rz_w; omega) (by omega) (by omega)⟩
theorem rw_r.co (a : rw_r N S h g) (hs : s < S) : g.2.1 (.inl 106) s = h.2.1 (.inl 106) s := a.2.2.2 106 s (by unfold rz_w; omega) (by omega) (by omega)
/-- bodies of other shapes -/
theorem rs_Hm (A : rs_A hc hr S N) (D : rs_D hc hr N s1 C1 n1 F1) (l : ∀ i, i < N → g.2.1 (.inl 117) i = hr.2.1 (.inl 117) i) : ∀ b, b < N → ¬ (F1 ≤ b ∧ b < F1 + n1) → g.2.1 (.inl 117) b = 0 ∨ ∃ s u v : Nat, s ≤ 12 ∧ s ≠ s1 ∧ u < 6 ∧ v < 6 ∧ rD g (.inl 117) b = ((36 * s + 6 * u + v + 1 : Nat) : Int) := fun b hb nb => by
  obtain ⟨A1, A2, A3, A4, A5, A6, A7, A8, A9, A10⟩ := A
  unfold rD
  rw [l b hb]
  rcases (A10 b hb).2 with q | ⟨s, k, q1, q2, q3⟩
  · exact Or.inl q.1
  · obtain ⟨C, m, F, E⟩ := (A9 s q1).2
    have m6 := E.2.2.2.2.2.1
    have f5 := E.2.2.2.2.2.2.1
    have ne : s ≠ s1 := fun e => by
      subst e
      have m6' := D.2.2.2.2.2.1
      have f5' := D.2.2.2.2.2.2.1
      omega
    obtain ⟨u, v, Q⟩ := E.2.2.2.2.2.2.2.2.2.1 k (by omega)
    have u1 := Q.1
    have v1 := Q.2.1
    have C6 := E.2.1
    have q12 := Q.2.2.2.2.2.2.2.2.2.2.2.1
    rw [show F + k = b by omega] at q12
    exact Or.inr ⟨s, u, v, by omega, ne, by omega, by omega, q12⟩
/-! numbers, apart from the heaps -/
theorem rjb_n (l1 : s1 < S) (l2 : s2 < S) (S11 : S ≤ 11) (nn : N + (n1 + n2 + 1) ≤ 200) (CC : C1 + C2 ≤ 6) : s1 ≠ S ∧ s2 ≠ S ∧ S ≤ 12 ∧ C1 + C2 ≤ 2147483647 ∧ 0 + C1 ≤ C1 + C2 ∧ C1 ≤ 6 ∧ C2 ≤ 6 := ⟨by omega, by omega, by omega, by omega, by omega, by omega, by omega⟩
theorem rjb_r (nn : N + (n1 + n2 + 1) ≤ 200) : N + 0 + (n1 - 0) ≤ 200 ∧ N + n1 + (n2 - 0) ≤ 200 ∧ n1 + (n2 - 0) = n1 + n2 ∧ 0 + (n1 - 0) = n1 := ⟨by omega, by omega, by omega, by omega⟩
theorem rjb_36 {u v : Nat} (hu : u < 6) (hv : v < 6) : 6 * u + v < 36 := by omega
theorem rjb_c0 : ¬ (S = S ∧ ((0 = 0 ∧ 0 = 6) ∨ (5 ≤ 0 ∧ 0 < 9))) := by omega
theorem rjb_cx {x : Nat} (l1 : 1 ≤ x) (l2 : x ≤ 4) (P : Prop) : ¬ (P ∧ ((x = 0 ∧ i = 6) ∨ (5 ≤ x ∧ x < 9))) := fun t => by omega
theorem rjb_kx {x : Nat} (h : 5 ≤ x) (P Q : Prop) : ¬ (P ∧ x ≤ 4 ∧ Q) := fun t => absurd t.2.1 (by omega)
theorem rjb_k0 (P : Prop) : ¬ (P ∧ 0 ≤ 4 ∧ (0 = 0 → 6 = 0)) := fun t => absurd (t.2.2 rfl) (by decide +kernel)
theorem rjb_x4 {x : Nat} (l1 : 1 ≤ x) (l2 : x ≤ 4) : x = 1 ∨ x = 2 ∨ x = 3 ∨ x = 4 := by omega
theorem rjb_w {x : Nat} (l1 : 1 ≤ x) (l2 : x ≤ 4) (hi : i < 6) : rs_w s (106 + x) (6 * s + i) := by
  unfold rs_w
  omega
theorem rjb_q {q : Nat} (l1 : 106 ≤ q) (l2 : q ≤ 110) (P : Prop) : ¬ ((q = 111 ∨ q = 112 ∨ q = 113) ∧ P) ∧ (¬ (q = 105 ∧ i = 12)) ∧ ¬ ((q = 116 ∨ q = 117) ∧ P) := ⟨fun t => by omega, fun t => by omega, fun t => by omega⟩
theorem rjb_s {x c : Nat} (hc1 : c < C1) : ¬ (107 ≤ 106 + x ∧ 106 + x ≤ 110 ∧ 6 * S + C1 ≤ 6 * S + c ∧ 6 * S + c < 6 * S + 6) := by omega
theorem rjb_e {c : Nat} (h : ¬ c < C1) (hc : c < C1 + C2) (CC : C1 + C2 ≤ 6) : c - C1 < C2 ∧ C1 + (c - C1) = c ∧ 6 * S + C1 + (c - C1) = 6 * S + c ∧ c - C1 < 6 := ⟨by omega, by omega, by omega, by omega⟩
theorem rjb_o {u v u0 v0 : Nat} (p1 : u0 < C1) (p2 : v0 < C1) (w : (u = 0 + u0 ∧ v = 0 + v0) ∨ (u = 0 + v0 ∧ v = 0 + u0)) : u < C1 ∧ v < C1 := ⟨by omega, by omega⟩
theorem rjb_p {u v u0 v0 : Nat} (w : (u = C1 + u0 ∧ v = C1 + v0) ∨ (u = C1 + v0 ∧ v = C1 + u0)) : C1 ≤ u ∧ C1 ≤ v := ⟨by omega, by omega⟩
/-- both shapes stand in the draft -/
theorem rj_both (A : rs_A hc hr S N) (lt1 : s1 < S) (lt2 : s2 < S) (D1 : rs_D hc hr N s1 C1 n1 F1) (D2 : rs_D hc hr N s2 C2 n2 F2) (S11 : S ≤ 11) (nn : N + (n1 + n2 + 1) ≤ 200) (CC : C1 + C2 ≤ 6) (h1 : a1.toInt = (s1 : Int)) (h2 : a2.toInt = (s2 : Int)) (hS : sS.toInt = (S : Int)) (hb : ∀ i, hr.2.1 (.inl 110) i = 0 ∨ hr.2.1 (.inl 110) i = 1)
    (e2 : c2 = f64 S s1 (f59 S hc)) (e4 : c4 = f64 S s2 c2) (q0 : r0 = f182 sS hr) (q1 : r1 = mx_uI r0 (.inl 106) S (r0.2.1 (.inl 106) s1 + r0.2.1 (.inl 106) s2)) (q2 : r2 = f279 a1 sS 0 r1) (q3 : r3 = f279 a2 sS (r2.2.1 (.inl 106) s1) r2) (q4 : r4 = f278 a1 sS 0 r3) (q5 : r5 = f278 a2 sS (r4.2.1 (.inl 106) s1) r4) :
    rz_FW S hc c2 ∧ rz_FW S hc c4 ∧ rw_r N S hr r2 ∧ rw_r N S hr r4 ∧ rw_r N S hr r5 ∧ rj_J c4 r5 S (C1 + C2) N (n1 + n2) ∧ (∀ u v, u < 6 → v < 6 → ¬ r5.2.1 (.inl 113) (36 * S + 6 * u + v) = 0 → (u < C1 ∧ v < C1) ∨ (C1 ≤ u ∧ C1 ≤ v)) ∧ rD c4 (.inr (S, 0)) 0 = ((C1 + C2 : Nat) : Int) ∧ rD r5 (.inl 106) S = ((C1 + C2 : Nat) : Int) ∧
    (∀ x c, 1 ≤ x → x ≤ 4 → c < C1 + C2 → c4.2.1 (.inr (S, x)) c = r5.2.1 (.inl (106 + x)) (6 * S + c)) := by
  obtain ⟨A1, A2, A3, A4, A5, A6, A7, A8, A9, A10⟩ := id A
  obtain ⟨n1S, n2S, S12, CCm, zC, C16, C26⟩ := rjb_n lt1 lt2 S11 nn CC
  obtain ⟨room1, room2, en2, en1⟩ := rjb_r nn
  have k1c := D1.2.2.2.1
  have k2c := D2.2.2.2.1
  have k1r := D1.2.2.2.2.1
  have k2r := D2.2.2.2.2.1
  obtain ⟨F0, z0, z6, z11, z12, -⟩ := C59s S hc
  -- the class: corners of the first
  have dS1 : rD (f59 S hc) (.inr (s1, 0)) 0 = C1 := by
    unfold rD
    rw [F0.2.2.2 s1 0 0 (fun t => n1S t.1)]
    exact k1c
  obtain ⟨c1, ec1, K1⟩ := C64l (a2 := 0) (o := 0) n1S dS1 (Nat.le_trans (Nat.le_of_eq (Nat.zero_add _)) C16) C1 0 0 (g := f59 S hc) (Nat.zero_add _) rfl ⟨rfl, rfl, fun _ _ => rfl, fun _ _ _ _ => rfl, by unfold rD; rw [z0]; rfl, fun _ _ _ _ t => absurd t (Nat.not_lt_zero _), fun _ _ _ _ t => absurd t (Nat.not_lt_zero _)⟩
  have W1 : rz_FW S hc c1 := F0.trans K1.W
  have E2 : c2 = g64_102 S s1 0 0 c1 := by rw [e2, f64_eq, z0, ec1]
  -- the reference: cleared, corners of both
  obtain ⟨G0, g5, g6, gz, g36⟩ := R182 (h := hr) hS S12
  rw [← q0] at G0 g5 g6 gz g36
  have w0 : rw_r N S hr r0 := G0.W
  have r0a : rD r0 (.inl 106) s1 = C1 := by
    unfold rD
    rw [w0.co lt1]
    exact k1r
  have r0b : rD r0 (.inl 106) s2 = C2 := by
    unfold rD
    rw [w0.co lt2]
    exact k2r
  have sum := i_addn r0a r0b CCm
  have w1 : rw_r N S r0 r1 := by
    rw [q1]
    exact (rz_FR.refl.u (Or.inr (Or.inl ⟨rfl, rfl⟩))).W
  have w01 := w0.trans w1
  have r1S : rD r1 (.inl 106) S = ((C1 + C2 : Nat) : Int) := by
    unfold rD
    rw [q1, rI_s, sum]
  have r1a : rD r1 (.inl 106) s1 = C1 := by
    unfold rD
    rw [w01.co lt1]
    exact k1r
  have hb1 : ∀ s i, s < S → i < 6 → r1.2.1 (.inl 110) (6 * s + i) = 0 ∨ r1.2.1 (.inl 110) (6 * s + i) = 1 := fun s i hs hi => by
    rw [w01.e hs 110 (6 * s + i) (rjb_w (x := 4) (by decide +kernel) (by decide +kernel) hi)]
    exact hb _
  have R1 : rc_F r1 r2 S s1 0 C1 := by
    rw [q2, f279_eq]
    exact R279l (o := 0) lt1 S12 h1 hS k_0 r1a (Nat.le_trans (Nat.le_of_eq (Nat.zero_add _)) C16) (fun i hi => hb1 s1 i lt1 (Nat.lt_of_lt_of_le hi C16)) C1 0 0 (Nat.zero_add _) rfl ⟨rfl, rfl, fun _ _ => rfl, fun _ _ _ => rfl, fun _ _ _ _ t => absurd t (Nat.not_lt_zero _)⟩
  have w2 : rw_r N S hr r2 := w01.trans R1.W
  have r2a : rD r2 (.inl 106) s1 = C1 := by
    unfold rD
    rw [w2.co lt1]
    exact k1r
  have r2b : rD r2 (.inl 106) s2 = C2 := by
    unfold rD
    rw [w2.co lt2]
    exact k2r
  have R2 : rc_F r2 r3 S s2 C1 C2 := by
    rw [q3, f279_eq]
    refine R279l lt2 S12 h2 hS r2a r2b CC (fun i hi => ?_) C2 0 0 (Nat.zero_add _) rfl ⟨rfl, rfl, fun _ _ => rfl, fun _ _ _ => rfl, fun _ _ _ _ t => absurd t (Nat.not_lt_zero _)⟩
    rw [w2.e lt2 110 (6 * s2 + i) (rjb_w (x := 4) (by decide +kernel) (by decide +kernel) (Nat.lt_of_lt_of_le hi C26))]
    exact hb _
  have w3 : rw_r N S hr r3 := w2.trans R2.W
  have r3n : rD r3 (.inl 105) 12 = N := by
    unfold rD
    rw [R2.2.2.2.1 105 12 (fun t => absurd t.1 (by decide +kernel)), R1.2.2.2.1 105 12 (fun t => absurd t.1 (by decide +kernel)), q1, rN (by decide +kernel), g5 12]
    exact A6
  have r3z : ∀ c, c < 36 → r3.2.1 (.inl 113) (36 * S + c) = 0 := fun c hc1 => by
    rw [R2.2.2.2.1 113 _ (fun t => absurd t.2.1 (by decide +kernel)), R1.2.2.2.1 113 _ (fun t => absurd t.2.1 (by decide +kernel)), q1, rN (by decide +kernel)]
    exact g36 c hc1
  have l3 : ∀ i, i < N → r3.2.1 (.inl 117) i = hr.2.1 (.inl 117) i := fun i hi => (w3.l hi).2
  have ref92 : ∀ {x : mx_H}, rz_FW S hc x → ∀ i, x.2.2.2 (.inl 92) i = hc.2.2.2 (.inl 92) i := fun W i => by rw [show _ = hc.2.2.2 from congrArg Prod.snd W.2.1]
  -- the first one's pieces
  have D1' : rs_D c1 r3 N s1 C1 n1 F1 := D1.x (Nat.le_refl _) (rs_ecF W1 lt1) (w3.e lt1) (fun i hi => ⟨l3 i hi, ref92 W1 i⟩)
  have J0 : rj_J c1 r3 S (C1 + C2) N 0 := by
    refine ⟨CC, ?_, r3n, fun q hq => absurd hq (Nat.not_lt_zero _), fun u v hu hv => Or.inl ?_, ?_⟩
    · unfold rD
      rw [K1.2.2.2.1 S 0 6 (rjb_k0 _), z6]
      rfl
    · rw [Nat.add_assoc]
      exact r3z _ (rjb_36 hu hv)
    · symm
      unfold sd_C
      rw [List.filter_eq_nil_iff.mpr (fun c hc1 => ?_)]
      · rfl
      · have lt : ∀ c ∈ sd_CL, c < 36 := by decide +kernel
        unfold rz_g
        rw [decide_eq_true_iff]
        exact fun t => t (r3z c (lt c hc1))
  have Z1 := rj_copy (C := C1 + C2) (o := 0) (B := N) (a4 := r3.2.1 (.inl 105) 12) (c2 := 0) D1' (rs_Hm A D1 l3) zC lt1 S12 h1 k_0 hS r3n (Nat.le_refl _) N 0 0 0 0 0 (hc := c1) (hr := r3) (Nat.zero_add _) rfl rfl (Or.inl ⟨Nat.zero_le _, rfl⟩) (Nat.le_refl _) room1 ⟨rj_c.refl, rj_r.refl, J0, fun u v hu hv t => absurd (by rw [Nat.add_assoc]; exact r3z _ (rjb_36 hu hv)) t⟩
  rw [en1, ← E2, show g278_9 a1 sS 0 (r3.2.1 (.inl 105) 12) 0 r3 = r4 by rw [q4, f278_eq]] at Z1
  obtain ⟨y1, y2, y3, y4⟩ := Z1
  have W2 : rz_FW S hc c2 := W1.trans y1.W
  have w4 : rw_r N S hr r4 := w3.trans y2.W
  -- corners of the second
  have c2S : rD c2 (.inr (S, 0)) 0 = C1 := by
    unfold rD
    rw [y1.2.2.2 S 0 0 rjb_c0]
    exact K1.2.2.2.2.1.trans (by rw [Nat.zero_add])
  have dS2 : rD c2 (.inr (s2, 0)) 0 = C2 := by
    unfold rD
    rw [W2.2.2.2 s2 0 0 (fun t => n2S t.1)]
    exact k2c
  obtain ⟨c3, ec3, K2⟩ := C64l (a2 := c2.2.1 (.inr (S, 0)) 0) (o := C1) n2S dS2 CC C2 0 0 (g := c2) (Nat.zero_add _) rfl ⟨rfl, rfl, fun _ _ => rfl, fun _ _ _ _ => rfl, c2S, fun _ _ _ _ _ => rfl, fun _ _ _ _ t => absurd t (Nat.not_lt_zero _)⟩
  have W3 : rz_FW S hc c3 := W2.trans K2.W
  have E4 : c4 = g64_102 S s2 (c2.2.1 (.inr (S, 0)) 0) 0 c3 := by rw [e4, f64_eq, ec3]
  have r4a : rD r4 (.inl 106) s1 = C1 := by
    unfold rD
    rw [w4.co lt1]
    exact k1r
  have oo : r4.2.1 (.inl 106) s1 = c2.2.1 (.inr (S, 0)) 0 := i_eq r4a c2S rfl
  have l4 : ∀ i, i < N → r4.2.1 (.inl 117) i = hr.2.1 (.inl 117) i := fun i hi => (w4.l hi).2
  have D2' : rs_D c3 r4 N s2 C2 n2 F2 := D2.x (Nat.le_refl _) (rs_ecF W3 lt2) (w4.e lt2) (fun i hi => ⟨l4 i hi, ref92 W3 i⟩)
  have kx : ∀ q u v, rs_k c2 r4 S (C1 + C2) N q u v → rs_k c3 r4 S (C1 + C2) N q u v := fun q u v Q => by
    obtain ⟨o1, o2, o3, o4, o5, o6, o7, o8, o9, o10, o11, o12⟩ := Q
    unfold rs_k rD
    rw [K2.2.2.2.1 S 5 q (rjb_kx (by decide +kernel) _ _), K2.2.2.2.1 S 6 q (rjb_kx (by decide +kernel) _ _), K2.2.2.2.1 S 7 q (rjb_kx (by decide +kernel) _ _), K2.2.2.2.1 S 8 q (rjb_kx (by decide +kernel) _ _)]
    exact ⟨o1, o2, o3, o4, o5, o6, o7, o8, o9, o10, o11, o12⟩
  have J1 : rj_J c3 r4 S (C1 + C2) N n1 := by
    obtain ⟨j0, j1, j2, j3, j4, j5⟩ := y3
    refine ⟨j0, ?_, j2, fun q hq => ?_, fun u v hu hv => ?_, j5⟩
    · unfold rD
      rw [K2.2.2.2.1 S 0 6 (rjb_k0 _)]
      exact j1
    · obtain ⟨b, u, v, Q⟩ := j3 q hq
      exact ⟨b, u, v, kx q u v Q⟩
    · rcases j4 u v hu hv with z | ⟨q, p1, p2⟩
      · exact Or.inl z
      · refine Or.inr ⟨q, p1, ?_⟩
        rcases p2 with p2 | p2
        · exact Or.inl (kx _ _ _ p2)
        · exact Or.inr (kx _ _ _ p2)
  have r4n : rD r4 (.inl 105) 12 = ((N + n1 : Nat) : Int) := y3.2.2.1
  have Z2 := rj_copy (C := C1 + C2) (o := C1) (B := N + n1) (a4 := r4.2.1 (.inl 105) 12) (c2 := c2.2.1 (.inr (S, 0)) 0) D2' (rs_Hm A D2 l4) (Nat.le_refl _) lt2 S12 h2 c2S hS r4n (Nat.le_add_right _ _) (N + n1) 0 0 n1 0 0 (hc := c3) (hr := r4) (Nat.zero_add _) rfl rfl (Or.inl ⟨Nat.zero_le _, rfl⟩) (Nat.le_refl _) room2 ⟨rj_c.refl, rj_r.refl, J1, fun u v hu hv t => Or.inl (by
    rcases y4 u v hu hv t with w | ⟨k', u0, v0, w1, w2, w3⟩
    · exact absurd w.1 (Nat.not_lt_zero _)
    · exact rjb_o w2.1 w2.2.1 w3)⟩
  rw [en2, ← E4, show g278_9 a2 sS (c2.2.1 (.inr (S, 0)) 0) (r4.2.1 (.inl 105) 12) 0 r4 = r5 by rw [q5, f278_eq, oo]] at Z2
  obtain ⟨x1, x2, x3, x4⟩ := Z2
  have W4 : rz_FW S hc c4 := W3.trans x1.W
  have w5 : rw_r N S hr r5 := w4.trans x2.W
  have r35 : ∀ q i, 106 ≤ q → q ≤ 110 → r5.2.1 (.inl q) i = r3.2.1 (.inl q) i := fun q i l1 l2 => by rw [x2.2.2.2 q i (rjb_q (i := i) l1 l2 _).1 (rjb_q (i := i) l1 l2 True).2.1 (rjb_q (i := i) l1 l2 _).2.2, y2.2.2.2 q i (rjb_q (i := i) l1 l2 _).1 (rjb_q (i := i) l1 l2 True).2.1 (rjb_q (i := i) l1 l2 _).2.2]
  refine ⟨W2, W4, w2, w4, w5, x3, fun u v hu hv t => ?_, ?_, ?_, fun x c l1 l2 hc1 => ?_⟩
  · rcases x4 u v hu hv t with w | ⟨k', u0, v0, w1, w2, w3⟩
    · exact Or.inl w
    · exact Or.inr (rjb_p w3)
  · unfold rD
    rw [x1.2.2.2 S 0 0 rjb_c0]
    exact K2.2.2.2.2.1
  · unfold rD
    rw [r35 106 S (by decide +kernel) (by decide +kernel), R2.2.2.2.1 106 S (fun t => absurd t.1 (by decide +kernel)), R1.2.2.2.1 106 S (fun t => absurd t.1 (by decide +kernel))]
    exact r1S
  · rw [x1.2.2.2 S x c (rjb_cx l1 l2 _), r35 (106 + x) _ (Nat.le_add_right _ _) (Nat.add_le_add_left l2 106)]
    have dd : ∀ s C m F i, s < S → rs_D hc hr N s C m F → i < C → hc.2.1 (.inr (s, x)) i = hr.2.1 (.inl (106 + x)) (6 * s + i) := fun s C m F i _ D hi => by
      obtain ⟨d1, d2, d3, d4⟩ := D.2.2.2.2.2.2.2.1 i hi
      rcases (rjb_x4 l1 l2) with t | t | t | t
      · subst t
        exact d1
      · subst t
        exact d2
      · subst t
        exact d3
      · subst t
        exact d4
    by_cases t : c < C1
    · rw [K2.2.2.2.2.2.1 x c l1 l2 t, y1.2.2.2 S x c (rjb_cx l1 l2 _), R2.2.2.2.1 (106 + x) (6 * S + c) (rjb_s t)]
      have p1 := K1.2.2.2.2.2.2 x c l1 l2 t
      have p2 := R1.2.2.2.2 (106 + x) c (Nat.add_le_add_left l1 106) (Nat.add_le_add_left l2 106) t
      rw [Nat.zero_add] at p1
      rw [Nat.add_zero] at p2
      rw [p1, p2, F0.2.2.2 s1 x c (fun t => n1S t.1), w01.e lt1 (106 + x) (6 * s1 + c) (rjb_w l1 l2 (Nat.lt_of_lt_of_le t C16))]
      exact dd s1 C1 n1 F1 c lt1 D1 t
    · obtain ⟨b1, b2, b3, b4⟩ := rjb_e (S := S) t hc1 CC
      have p1 := K2.2.2.2.2.2.2 x (c - C1) l1 l2 b1
      have p2 := R2.2.2.2.2 (106 + x) (c - C1) (Nat.add_le_add_left l1 106) (Nat.add_le_add_left l2 106) b1
      rw [b2] at p1
      rw [b3] at p2
      rw [p1, p2, W2.2.2.2 s2 x (c - C1) (fun t => n2S t.1), w2.e lt2 (106 + x) (6 * s2 + (c - C1)) (rjb_w l1 l2 b4)]
      exact dd s2 C2 n2 F2 (c - C1) lt2 D2 b1
end RBB
