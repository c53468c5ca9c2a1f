/-! ===== pieces of a shape copied into the draft, on both sides ===== -/
section RU
variable {h h' h'' hc hr gc gr hc0 hr0 : mx_H} {S N n C M k s1 b B u v s : Nat} {a1 a2 a3 a4 a5 : Int32}
theorem i_div {x y : Int32} {p q : Nat} (hx : x.toInt = (p : Int)) (hy : y.toInt = (q : Int)) : (x / y).toInt = ((p / q : Nat) : Int) := by
  have b := i_b x
  have l : p / q ≤ p := Nat.div_le_self _ _
  have e : ((p : Int) / (q : Int)) = ((p / q : Nat) : Int) := rfl
  generalize p / q = r at l e ⊢
  rw [Int32.toInt_div, hx, hy, Int.tdiv_eq_ediv_of_nonneg (by omega), e, iv_bm (by omega) (by omega)]
theorem R_dec {t : Int32} (ht : t.toInt = ((36 * s + 6 * u + v : Nat) : Int)) (hu : u < 6) (hv : v < 6) (s12 : s ≤ 12) : (t / 36).toInt = (s : Int) ∧ (t / 6 - t / 6 / 6 * 6).toInt = (u : Int) ∧ (t - t / 6 * 6).toInt = (v : Int) := by
  have n6 : (6 : Int32).toInt = ((6 : Nat) : Int) := rfl
  have e1 := i_div ht (show (36 : Int32).toInt = ((36 : Nat) : Int) from rfl)
  have e2 := i_div ht n6
  have e3 := i_div e2 n6
  rw [show (36 * s + 6 * u + v) / 36 = s by omega] at e1
  rw [show (36 * s + 6 * u + v) / 6 = 6 * s + u by omega] at e2 e3
  rw [show (6 * s + u) / 6 = s by omega] at e3
  have e4 := i_mul e3 k_6 (by omega) (by omega)
  have e5 := i_mul e2 k_6 (by omega) (by omega)
  refine ⟨e1, ?_, ?_⟩
  · rw [i_sub e2 e4 (by omega) (by omega)]
    omega
  · rw [i_sub ht e5 (by omega) (by omega)]
    omega
theorem R278a (h4 : a4.toInt = (B : Int)) (h5 : a5.toInt = (b : Int)) (hb : b < B) (z : h.2.1 (.inl 117) b = 0) : g278_9 a1 a2 a3 a4 a5 h = g278_9 a1 a2 a3 a4 (a5 + 1) h := by
  rw [g278_9_eq, if_neg (i_nle h4 h5 (by omega)), i_cl h5, z, if_pos (by decide +kernel)]
theorem R278t (hh : rD h (.inl 117) b = ((36 * s + 6 * u + v + 1 : Nat) : Int)) (hu : u < 6) (hv : v < 6) (s12 : s ≤ 12) : (h.2.1 (.inl 117) b - 1).toInt = ((36 * s + 6 * u + v : Nat) : Int) := by
  rw [i_sub hh k_1 (by omega) (by omega)]
  omega
theorem R278b (h1 : a1.toInt = (s1 : Int)) (h4 : a4.toInt = (B : Int)) (h5 : a5.toInt = (b : Int)) (hb : b < B) (hh : rD h (.inl 117) b = ((36 * s + 6 * u + v + 1 : Nat) : Int)) (hu : u < 6) (hv : v < 6) (s12 : s ≤ 12) (ne : s ≠ s1) : g278_9 a1 a2 a3 a4 a5 h = g278_9 a1 a2 a3 a4 (a5 + 1) h := by
  have t := R278t hh hu hv s12
  obtain ⟨d1, d2, d3⟩ := R_dec t hu hv s12
  rw [g278_9_eq, if_neg (i_nle h4 h5 (by omega)), i_cl h5, if_neg (i_nlt t k_0 (by omega)), if_neg (i_ne d1 h1 (by omega))]
theorem R278c {o : Nat} (h1 : a1.toInt = (s : Int)) (h3 : a3.toInt = (o : Int)) (o6 : o ≤ 6) (h4 : a4.toInt = (B : Int)) (h5 : a5.toInt = (b : Int)) (hb : b < B) (hh : rD h (.inl 117) b = ((36 * s + 6 * u + v + 1 : Nat) : Int)) (hu : u < 6) (hv : v < 6) (s12 : s ≤ 12) :
    ∃ x y : Int32, x.toInt = ((o + u : Nat) : Int) ∧ y.toInt = ((o + v : Nat) : Int) ∧ g278_9 a1 a2 a3 a4 a5 h = g278_9 a1 a2 a3 a4 (a5 + 1) (f193 a2 x y (f181 a2 x y (h.2.1 (.inl 105) 12) (h.2.1 (.inl 111) (36 * s + 6 * u + v)) (h.2.1 (.inl 112) (36 * s + 6 * u + v)) h)) := by
  have t := R278t hh hu hv s12
  obtain ⟨d1, d2, d3⟩ := R_dec t hu hv s12
  refine ⟨_, _, (i_add d2 h3 (by omega) (by omega)).trans (by omega), (i_add d3 h3 (by omega) (by omega)).trans (by omega), ?_⟩
  rw [g278_9_eq, if_neg (i_nle h4 h5 (by omega)), i_cl h5, if_neg (i_nlt t k_0 (by omega)), if_pos (i_eq d1 h1 rfl), i_cl t]
  rfl
/-- the class's piece k of shape s1, copied -/
def k_cp (h : mx_H) (S s1 M k : Nat) (a2 : Int32) : mx_H := mx_uI (k_ap h S M (a2 + h.2.1 (.inr (s1, 5)) k) (a2 + h.2.1 (.inr (s1, 6)) k) (h.2.1 (.inr (s1, 7)) k)) (.inr (S, 8)) M (h.2.1 (.inr (s1, 8)) k)
theorem k_apo {a c d : Int32} {q i o : Nat} (hs : q ≠ S) : (k_ap h S M a c d).2.1 (.inr (q, o)) i = h.2.1 (.inr (q, o)) i := by
  have ne : ∀ o' : Nat, (Sum.inr (q, o) : mx_A) ≠ .inr (S, o') := fun o' e => by
    cases e
    exact hs rfl
  unfold k_ap
  rw [rI_a (ne 0), rI_a (ne 8), rI_a (ne 7), rI_a (ne 6), rI_a (ne 5)]
theorem C64b (hs : s1 ≠ S) (h6 : rD h (.inr (s1, 0)) 6 = n) (hM : rD h (.inr (S, 0)) 6 = M) (M15 : M < 15) (ha : a3.toInt = (k : Int)) (hk : k < n) : g64_102 S s1 a2 a3 h = g64_102 S s1 a2 (a3 + 1) (k_cp h S s1 M k a2) := by
  rw [g64_102_eq, if_neg (i_nle h6 ha (by omega)), if_neg (i_nle k_15 hM (by omega)), i_cl ha]
  show g64_102 S s1 a2 (a3 + 1) (mx_uI (f63 S (a2 + h.2.1 (.inr (s1, 5)) k) (a2 + h.2.1 (.inr (s1, 6)) k) (h.2.1 (.inr (s1, 7)) k) h) (.inr (S, 8)) (Int32.toNatClampNeg ((f63 S (a2 + h.2.1 (.inr (s1, 5)) k) (a2 + h.2.1 (.inr (s1, 6)) k) (h.2.1 (.inr (s1, 7)) k) h).2.1 (.inr (S, 0)) 6 - 1)) ((f63 S (a2 + h.2.1 (.inr (s1, 5)) k) (a2 + h.2.1 (.inr (s1, 6)) k) (h.2.1 (.inr (s1, 7)) k) h).2.1 (.inr (s1, 8)) k)) = _
  have e : ((k_ap h S M (a2 + h.2.1 (.inr (s1, 5)) k) (a2 + h.2.1 (.inr (s1, 6)) k) (h.2.1 (.inr (s1, 7)) k)).2.1 (.inr (S, 0)) 6 - 1).toInt = (M : Int) := by
    rw [ka0, if_pos rfl, i_sub (i_add hM k_1 (by omega) (by omega)) k_1 (by omega) (by omega)]
    omega
  rw [k63 hM M15, i_cl e, k_apo hs]
  rfl
/-- what a piece more changes -/
def rj_c (S : Nat) (h h' : mx_H) : Prop := h'.1 = h.1 ∧ h'.2.2 = h.2.2 ∧ (∀ k i, h'.2.1 (.inl k) i = h.2.1 (.inl k) i) ∧ ∀ s o i, ¬ (s = S ∧ ((o = 0 ∧ i = 6) ∨ (5 ≤ o ∧ o < 9))) → h'.2.1 (.inr (s, o)) i = h.2.1 (.inr (s, o)) i
def rj_r (N S : Nat) (h g : mx_H) : Prop := g.1 = h.1 ∧ g.2.2 = h.2.2 ∧ (∀ q i, g.2.1 (.inr q) i = h.2.1 (.inr q) i) ∧ ∀ k i, ¬ ((k = 111 ∨ k = 112 ∨ k = 113) ∧ 36 * S ≤ i ∧ i < 36 * S + 36) → ¬ (k = 105 ∧ i = 12) → ¬ ((k = 116 ∨ k = 117) ∧ N ≤ i) → g.2.1 (.inl k) i = h.2.1 (.inl k) i
theorem rj_c.refl : rj_c S h h := ⟨rfl, rfl, fun _ _ => rfl, fun _ _ _ _ => rfl⟩
theorem rj_r.refl : rj_r N S h h := ⟨rfl, rfl, fun _ _ => rfl, fun _ _ _ _ _ => rfl⟩
theorem rj_c.trans (a : rj_c S h h') (b : rj_c S h' h'') : rj_c S h h'' := ⟨b.1.trans a.1, b.2.1.trans a.2.1, fun k i => (b.2.2.1 k i).trans (a.2.2.1 k i), fun s o i q => (b.2.2.2 s o i q).trans (a.2.2.2 s o i q)⟩
theorem rj_r.trans (a : rj_r N S h h') (b : rj_r N S h' h'') : rj_r N S h h'' := ⟨b.1.trans a.1, b.2.1.trans a.2.1, fun k i => (b.2.2.1 k i).trans (a.2.2.1 k i), fun k i p q r => (b.2.2.2 k i p q r).trans (a.2.2.2 k i p q r)⟩
theorem k_apF {a c d : Int32} : rj_c S h (k_ap h S M a c d) := ⟨rfl, rfl, fun _ _ => rfl, fun s o i q => by
  by_cases e : s = S
  · subst e
    by_cases e0 : o = 0
    · subst e0
      rw [ka0, if_neg (by omega)]
    · rw [kao e0 (by omega) (by omega) (by omega) (by omega)]
  · exact k_apo e⟩
theorem rj_c.w {i : Nat} {v : Int32} : rj_c S h (mx_uI h (.inr (S, 8)) i v) := ⟨rfl, rfl, fun _ _ => rfl, fun s o j q => by
  by_cases e : s = S ∧ o = 8
  · exact absurd ⟨e.1, Or.inr (by omega)⟩ q
  · exact rI_a (fun t => e ⟨congrArg Prod.fst (Sum.inr.inj t), congrArg Prod.snd (Sum.inr.inj t)⟩)⟩
theorem k_cpF : rj_c S h (k_cp h S s1 M k a2) := by
  unfold k_cp
  exact rj_c.trans k_apF rj_c.w
end RU
/-! ===== the copy loops walk together ===== -/
section RV
variable {h h' h'' hc hr gc gr hc0 hr0 : mx_H} {S N n C M k s1 b B u v s o C1 F1 u0 v0 : Nat} {a1 a2 a3 a4 a5 c2 x y : Int32}
theorem k_cp5 {i : Nat} : (k_cp h S s1 M k a2).2.1 (.inr (S, 5)) i = if i = M then k_mn (a2 + h.2.1 (.inr (s1, 5)) k) (a2 + h.2.1 (.inr (s1, 6)) k) else h.2.1 (.inr (S, 5)) i := by
  unfold k_cp
  rw [rS (by decide +kernel), ka5]
theorem k_cp6 {i : Nat} : (k_cp h S s1 M k a2).2.1 (.inr (S, 6)) i = if i = M then k_mx (a2 + h.2.1 (.inr (s1, 5)) k) (a2 + h.2.1 (.inr (s1, 6)) k) else h.2.1 (.inr (S, 6)) i := by
  unfold k_cp
  rw [rS (by decide +kernel), ka6]
theorem k_cp7 {i : Nat} : (k_cp h S s1 M k a2).2.1 (.inr (S, 7)) i = if i = M then h.2.1 (.inr (s1, 7)) k else h.2.1 (.inr (S, 7)) i := by
  unfold k_cp
  rw [rS (by decide +kernel), ka7]
theorem k_cp8 {i : Nat} : (k_cp h S s1 M k a2).2.1 (.inr (S, 8)) i = if i = M then h.2.1 (.inr (s1, 8)) k else h.2.1 (.inr (S, 8)) i := by
  unfold k_cp
  by_cases e : i = M
  · rw [rI_c rfl e, if_pos e]
  · rw [rI_i e, ka8, if_neg e, if_neg e]
theorem k_cp0 : (k_cp h S s1 M k a2).2.1 (.inr (S, 0)) 6 = h.2.1 (.inr (S, 0)) 6 + 1 := by
  unfold k_cp
  rw [rS (by decide +kernel), ka0, if_pos rfl]
/-- so far: k pieces of s1, moved by o corners -/
def rj_Z (hc0 hr0 hc hr : mx_H) (S C N M s1 C1 F1 o k : Nat) : Prop := rj_c S hc0 hc ∧ rj_r N S hr0 hr ∧ rj_J hc hr S C N M ∧ ∀ u v, u < 6 → v < 6 → ¬ hr.2.1 (.inl 113) (36 * S + 6 * u + v) = 0 → (u < o ∧ v < o) ∨ ∃ k' u0 v0, k' < k ∧ rs_k hc0 hr0 s1 C1 F1 k' u0 v0 ∧ ((u = o + u0 ∧ v = o + v0) ∨ (u = o + v0 ∧ v = o + u0))
/-! numbers, apart from the heaps (omega is slow where many facts stand) -/
theorem i_suc {x : Int32} {n : Nat} (h : x.toInt = (n : Int)) (l : n ≤ 2147483646) : (x + 1).toInt = ((n + 1 : Nat) : Int) := (i_add h k_1 (by omega) (by omega)).trans (by omega)
theorem i_addn {x y : Int32} {p q : Nat} (hx : x.toInt = (p : Int)) (hy : y.toInt = (q : Int)) (l : p + q ≤ 2147483647) : (x + y).toInt = ((p + q : Nat) : Int) := (i_add hx hy (by omega) (by omega)).trans (by omega)
theorem rjn_ne {x : Int} {F a b : Nat} (p : x = ((F + a + 1 : Nat) : Int)) (q : x = ((F + b + 1 : Nat) : Int)) (h : a < b) : False := by omega
theorem rjn_o1 {u0 v0 u1 v1 : Nat} (w : (o + u0 = o + u1 ∧ o + v0 = o + v1) ∨ (o + u0 = o + v1 ∧ o + v0 = o + u1)) (f : ¬ (u1 = u0 ∧ v1 = v0) ∧ ¬ (u1 = v0 ∧ v1 = u0)) : False := by omega
theorem rjn_o2 {u0 v0 u1 v1 : Nat} (w : (o + v0 = o + u1 ∧ o + u0 = o + v1) ∨ (o + v0 = o + v1 ∧ o + u0 = o + u1)) (f : ¬ (u1 = u0 ∧ v1 = v0) ∧ ¬ (u1 = v0 ∧ v1 = u0)) : False := by omega
theorem rjn_n {u0 v0 : Nat} (C6 : C ≤ 6) (oC : o + C1 ≤ C) (q1 : u0 < C1) (q2 : v0 < C1) (q3 : u0 ≠ v0) : (o ≤ 6 ∧ u0 < 6 ∧ v0 < 6) ∧ (o + u0 < 6 ∧ o + v0 < 6) ∧ (o + u0 < C ∧ o + v0 < C) ∧ o + u0 ≠ o + v0 ∧ (o + min u0 v0 ≤ 2147483647 ∧ o + max u0 v0 ≤ 2147483647) := ⟨⟨by omega, by omega, by omega⟩, ⟨by omega, by omega⟩, ⟨by omega, by omega⟩, by omega, ⟨by omega, by omega⟩⟩
theorem rjn_far {u v : Nat} (ne : s1 ≠ S) (hu : u < 6) (hv : v < 6) : ¬ (36 * S ≤ 36 * s1 + 6 * u + v ∧ 36 * s1 + 6 * u + v < 36 * S + 36) := by omega
theorem rjn_mn {u v : Nat} : ((min (o + min u v) (o + max u v) : Nat) : Int) = ((min (o + u) (o + v) : Nat) : Int) := by omega
theorem rjn_mx {u v : Nat} : ((max (o + min u v) (o + max u v) : Nat) : Int) = ((max (o + u) (o + v) : Nat) : Int) := by omega
theorem rjn_b {u v : Nat} (S12 : S ≤ 12) (hu : u < 6) (hv : v < 6) : 36 * S + 6 * u + v ≤ 2147483646 := by omega
theorem rjn_i {u v i : Nat} (hu : u < 6) (hv : v < 6) (p : ¬ (36 * S ≤ i ∧ i < 36 * S + 36)) : ¬ i = 36 * S + 6 * u + v := by omega
theorem rjn_0 {F1 : Nat} (K : (b ≤ F1 ∧ k = 0) ∨ (F1 < b ∧ b ≤ F1 + n ∧ k = b - F1) ∨ (F1 + n < b ∧ k = n)) (e : b + 0 = B) (NB : N ≤ B) (fn : F1 + n ≤ N) : k = n ∧ (B : Int) ≤ (b : Int) := ⟨by omega, by omega⟩
theorem rjn_2 {j : Nat} (e : b + (j + 1) = B) (BM : B ≤ N + M) (room : N + M + (n - k) ≤ 200) : b ≤ 2147483646 ∧ b < B ∧ b + 1 + j = B := ⟨by omega, by omega, by omega⟩
theorem rjn_3 {F1 : Nat} (K : (b ≤ F1 ∧ k = 0) ∨ (F1 < b ∧ b ≤ F1 + n ∧ k = b - F1) ∨ (F1 + n < b ∧ k = n)) (c : F1 ≤ b ∧ b < F1 + n) (fn : F1 + n ≤ N) : F1 + k = b ∧ k < n ∧ b < N ∧ ((b + 1 ≤ F1 ∧ k + 1 = 0) ∨ (F1 < b + 1 ∧ b + 1 ≤ F1 + n ∧ k + 1 = b + 1 - F1) ∨ (F1 + n < b + 1 ∧ k + 1 = n)) := ⟨by omega, by omega, by omega, by omega⟩
theorem rjn_5 {F1 : Nat} (fn : F1 + n ≤ N) (room : N + M + (n - k) ≤ 200) (kn : k < n) : N + M < 200 ∧ N + (M + 1) + (n - (k + 1)) ≤ 200 ∧ M + 1 + (n - (k + 1)) = M + (n - k) ∧ k ≤ 2147483646 := ⟨by omega, by omega, by omega, by omega⟩
theorem rjn_9 (h : ¬ b < N) (NB : N ≤ B) (bB : b < B) (BM : B ≤ N + M) : b - N < M ∧ N + (b - N) = b := ⟨by omega, by omega⟩
theorem rjn_11 {F1 : Nat} (K : (b ≤ F1 ∧ k = 0) ∨ (F1 < b ∧ b ≤ F1 + n ∧ k = b - F1) ∨ (F1 + n < b ∧ k = n)) (c : ¬ (F1 ≤ b ∧ b < F1 + n)) : (b + 1 ≤ F1 ∧ k = 0) ∨ (F1 < b + 1 ∧ b + 1 ≤ F1 + n ∧ k = b + 1 - F1) ∨ (F1 + n < b + 1 ∧ k = n) := by omega
theorem rj_step (Z : rj_Z hc0 hr0 hc hr S C N M s1 C1 F1 o k) (Q : rs_k hc0 hr0 s1 C1 F1 k u0 v0) (oC : o + C1 ≤ C) (ne : s1 ≠ S) (S12 : S ≤ 12) (NM : N + M < 200) (h2 : c2.toInt = (o : Int)) (hs : a2.toInt = (S : Int)) (hx : x.toInt = ((o + u0 : Nat) : Int)) (hy : y.toInt = ((o + v0 : Nat) : Int)) :
    M < 15 ∧ rj_Z hc0 hr0 (k_cp hc S s1 M k c2) (f193 a2 x y (f181 a2 x y (hr.2.1 (.inl 105) 12) (hr.2.1 (.inl 111) (36 * s1 + 6 * u0 + v0)) (hr.2.1 (.inl 112) (36 * s1 + 6 * u0 + v0)) hr)) S C N (M + 1) s1 C1 F1 o (k + 1) := by
  obtain ⟨fc, fr, J, O⟩ := Z
  obtain ⟨q1, q2, q3, q4, q5, q6, q7, q8, q9, q10, q11, q12⟩ := id Q
  obtain ⟨⟨o6, u06, v06⟩, ⟨u6, v6⟩, ⟨uC, vC⟩, nuv, mb, xb⟩ := rjn_n J.1 oC q1 q2 q3
  have far : ∀ k' u1 v1, k' < k → rs_k hc0 hr0 s1 C1 F1 k' u1 v1 → ¬ (u1 = u0 ∧ v1 = v0) ∧ ¬ (u1 = v0 ∧ v1 = u0) := fun k' u1 v1 hk P => by
    have p6 := P.2.2.2.2.2.1
    refine ⟨fun t => ?_, fun t => ?_⟩
    · rw [t.1, t.2] at p6
      exact rjn_ne p6 q6 hk
    · rw [t.1, t.2] at p6
      exact rjn_ne p6 q7 hk
  have z1 : hr.2.1 (.inl 113) (36 * S + 6 * (o + u0) + (o + v0)) = 0 := Classical.byContradiction fun t => by
    rcases O (o + u0) (o + v0) u6 v6 t with w | ⟨k', u1, v1, w1, w2, w3⟩
    · exact absurd w.1 (Nat.not_lt.mpr (Nat.le_add_right _ _))
    · exact rjn_o1 w3 (far k' u1 v1 w1 w2)
  have z2 : hr.2.1 (.inl 113) (36 * S + 6 * (o + v0) + (o + u0)) = 0 := Classical.byContradiction fun t => by
    rcases O (o + v0) (o + u0) v6 u6 t with w | ⟨k', u1, v1, w1, w2, w3⟩
    · exact absurd w.1 (Nat.not_lt.mpr (Nat.le_add_right _ _))
    · exact rjn_o2 w3 (far k' u1 v1 w1 w2)
  have M15 := rj_15 J u6 v6 nuv z1 z2
  refine ⟨M15, ?_⟩
  have e5 : (hc.2.1 (.inr (s1, 5)) k).toInt = ((min u0 v0 : Nat) : Int) := by
    rw [fc.2.2.2 s1 5 k (fun t => ne t.1)]
    exact q4
  have e6 : (hc.2.1 (.inr (s1, 6)) k).toInt = ((max u0 v0 : Nat) : Int) := by
    rw [fc.2.2.2 s1 6 k (fun t => ne t.1)]
    exact q5
  have x5 : (c2 + hc.2.1 (.inr (s1, 5)) k).toInt = ((o + min u0 v0 : Nat) : Int) := i_addn h2 e5 mb
  have x6 : (c2 + hc.2.1 (.inr (s1, 6)) k).toInt = ((o + max u0 v0 : Nat) : Int) := i_addn h2 e6 xb
  have e7 : hr.2.1 (.inl 111) (36 * s1 + 6 * u0 + v0) = hc.2.1 (.inr (s1, 7)) k := by
    rw [fc.2.2.2 s1 7 k (fun t => ne t.1), fr.2.2.2 111 _ (fun t => rjn_far ne u06 v06 t.2) (fun t => absurd t.1 (by decide +kernel)) (fun t => absurd t.1 (by decide +kernel))]
    exact q8
  have e8 : hr.2.1 (.inl 112) (36 * s1 + 6 * u0 + v0) = hc.2.1 (.inr (s1, 8)) k := by
    rw [fc.2.2.2 s1 8 k (fun t => ne t.1), fr.2.2.2 112 _ (fun t => rjn_far ne u06 v06 t.2) (fun t => absurd t.1 (by decide +kernel)) (fun t => absurd t.1 (by decide +kernel))]
    exact q10
  rw [e7, e8]
  generalize hG : f193 a2 x y (f181 a2 x y (hr.2.1 (.inl 105) 12) (hc.2.1 (.inr (s1, 7)) k) (hc.2.1 (.inr (s1, 8)) k) hr) = g
  have j2 := J.2.2.1
  obtain ⟨r1, r2, r3, r4, r5, r6, r7, r8, r9, r10, r11⟩ := R_add (N := N + M) hs hx hy j2 S12 u6 v6 nuv hG.symm
  have bo : (hr.2.1 (.inl 105) 12 + 1).toInt = ((N + M + 1 : Nat) : Int) := i_suc j2 (Nat.le_trans (Nat.le_of_lt NM) (by decide +kernel))
  have w := w179 hs hx hy S12 u6 v6
  have A := rj_add (u := o + u0) (v := o + v0) J uC vC nuv z1 z2 (gc := k_cp hc S s1 M k c2) (gr := g) (fun i => k_cp5) (fun i => k_cp6) (fun i => k_cp7) (fun i => k_cp8)
    (by unfold rD; rw [k_cp0]; exact i_suc J.2.1 (Nat.le_trans (Nat.le_of_lt M15) (by decide +kernel))) ((k_mn_v x5 x6).trans rjn_mn) ((k_mx_v x5 x6).trans rjn_mx) bo (w := f179 a2 x y + 1) (i_suc w (rjn_b S12 u6 v6)) r4 r5 r6 r7 r8 (by unfold rD; rw [r9]; exact bo) (by rw [fc.2.2.2 s1 8 k (fun t => ne t.1), fc.2.2.2 s1 7 k (fun t => ne t.1)]; exact q12.2)
  refine ⟨fc.trans k_cpF, fr.trans ⟨r1, r2, r3, fun a i p1 p2 p3 => ?_⟩, A.1, fun u v hu hv t => ?_⟩
  · by_cases c105 : a = 105
    · subst c105
      exact r10 i (fun e => p2 ⟨rfl, e⟩)
    · by_cases c111 : a = 111
      · subst c111
        rw [r5, if_neg (rjn_i v6 u6 (fun t => p1 ⟨Or.inl rfl, t⟩)), if_neg (rjn_i u6 v6 (fun t => p1 ⟨Or.inl rfl, t⟩))]
      · by_cases c112 : a = 112
        · subst c112
          rw [r6, if_neg (rjn_i v6 u6 (fun t => p1 ⟨Or.inr (Or.inl rfl), t⟩)), if_neg (rjn_i u6 v6 (fun t => p1 ⟨Or.inr (Or.inl rfl), t⟩))]
        · by_cases c113 : a = 113
          · subst c113
            rw [r4, if_neg (rjn_i v6 u6 (fun t => p1 ⟨Or.inr (Or.inr rfl), t⟩)), if_neg (rjn_i u6 v6 (fun t => p1 ⟨Or.inr (Or.inr rfl), t⟩))]
          · by_cases c116 : a = 116
            · subst c116
              rw [r7, if_neg (fun e => p3 ⟨Or.inl rfl, by rw [e]; exact Nat.le_add_right _ _⟩)]
            · by_cases c117 : a = 117
              · subst c117
                rw [r8, if_neg (fun e => p3 ⟨Or.inr rfl, by rw [e]; exact Nat.le_add_right _ _⟩)]
              · exact r11 a i c105 c111 c112 c113 c116 c117
  · rcases A.2 u v hu hv t with t | t | t
    · exact Or.inr ⟨k, u0, v0, Nat.lt_succ_self k, Q, Or.inl t⟩
    · exact Or.inr ⟨k, u0, v0, Nat.lt_succ_self k, Q, Or.inr t⟩
    · rcases O u v hu hv t with w | ⟨k', u1, v1, w1, w2, w3⟩
      · exact Or.inl w
      · exact Or.inr ⟨k', u1, v1, Nat.lt_succ_of_lt w1, w2, w3⟩
/-- both loops, from body b on -/
theorem rj_copy (D : rs_D hc0 hr0 N s1 C1 n F1) (Hm : ∀ b, b < N → ¬ (F1 ≤ b ∧ b < F1 + n) → hr0.2.1 (.inl 117) b = 0 ∨ ∃ s u v : Nat, s ≤ 12 ∧ s ≠ s1 ∧ u < 6 ∧ v < 6 ∧ rD hr0 (.inl 117) b = ((36 * s + 6 * u + v + 1 : Nat) : Int)) (oC : o + C1 ≤ C) (lt : s1 < S) (S12 : S ≤ 12) (h1 : a1.toInt = (s1 : Int)) (h2 : c2.toInt = (o : Int)) (hs : a2.toInt = (S : Int)) (h4 : a4.toInt = (B : Int)) (NB : N ≤ B) :
    ∀ (j b k M : Nat) (a3 a5 : Int32) {hc hr : mx_H}, b + j = B → a5.toInt = (b : Int) → a3.toInt = (k : Int) → (b ≤ F1 ∧ k = 0) ∨ (F1 < b ∧ b ≤ F1 + n ∧ k = b - F1) ∨ (F1 + n < b ∧ k = n) → B ≤ N + M → N + M + (n - k) ≤ 200 → rj_Z hc0 hr0 hc hr S C N M s1 C1 F1 o k → rj_Z hc0 hr0 (g64_102 S s1 c2 a3 hc) (g278_9 a1 a2 c2 a4 a5 hr) S C N (M + (n - k)) s1 C1 F1 o n
  | 0, b, k, M, a3, a5, hc, hr, e, hb, ha, K, BM, room, Z => by
    obtain ⟨kn, le⟩ := rjn_0 K e NB D.2.2.1
    have h6 : rD hc (.inr (s1, 0)) 6 = n := by
      unfold rD
      rw [Z.1.2.2.2 s1 0 6 (fun t => absurd t.1 (Nat.ne_of_lt lt))]
      exact D.2.2.2.2.2.1
    subst kn
    rw [g64_102_eq, if_pos (i_le h6 ha (Int.le_refl _)), g278_9_eq, if_pos (i_le h4 hb le), Nat.sub_self, Nat.add_zero]
    exact Z
  | j + 1, b, k, M, a3, a5, hc, hr, e, hb, ha, K, BM, room, Z => by
    have fn := D.2.2.1
    have C6 := Z.2.2.1.1
    have ne : s1 ≠ S := Nat.ne_of_lt lt
    obtain ⟨bb, bB, e'⟩ := rjn_2 e BM room
    have hb1 : (a5 + 1).toInt = ((b + 1 : Nat) : Int) := i_suc hb bb
    by_cases c : F1 ≤ b ∧ b < F1 + n
    · obtain ⟨fkb, kn, bN, K'⟩ := rjn_3 K c fn
      obtain ⟨NM, room', en, kb⟩ := rjn_5 fn room kn
      obtain ⟨u0, v0, Q⟩ := D.2.2.2.2.2.2.2.2.2.1 k kn
      have hh : rD hr (.inl 117) b = ((36 * s1 + 6 * u0 + v0 + 1 : Nat) : Int) := by
        have q := Q.2.2.2.2.2.2.2.2.2.2.2.1
        rw [fkb] at q
        unfold rD at q ⊢
        rw [Z.2.1.2.2.2 117 b (fun t => absurd t.1 (by decide +kernel)) (fun t => absurd t.1 (by decide +kernel)) (fun t => absurd bN (Nat.not_lt.mpr t.2))]
        exact q
      obtain ⟨⟨o6, u06, v06⟩, -⟩ := rjn_n C6 oC Q.1 Q.2.1 Q.2.2.1
      obtain ⟨x, y, hx, hy, E⟩ := R278c (a2 := a2) h1 h2 o6 h4 hb bB hh u06 v06 (Nat.le_trans (Nat.le_of_lt lt) S12)
      obtain ⟨M15, Z'⟩ := rj_step Z Q oC ne S12 NM h2 hs hx hy
      have h6 : rD hc (.inr (s1, 0)) 6 = n := by
        unfold rD
        rw [Z.1.2.2.2 s1 0 6 (fun t => ne t.1)]
        exact D.2.2.2.2.2.1
      rw [E, C64b ne h6 Z.2.2.1.2.1 M15 ha kn]
      have r := rj_copy D Hm oC lt S12 h1 h2 hs h4 NB j (b + 1) (k + 1) (M + 1) (a3 + 1) (a5 + 1) e' hb1 (i_suc ha kb) K' (Nat.le_succ_of_le BM) room' Z'
      rw [en] at r
      exact r
    · have E : g278_9 a1 a2 c2 a4 a5 hr = g278_9 a1 a2 c2 a4 (a5 + 1) hr := by
        by_cases bN : b < N
        · have e7 : hr.2.1 (.inl 117) b = hr0.2.1 (.inl 117) b := Z.2.1.2.2.2 117 b (fun t => absurd t.1 (by decide +kernel)) (fun t => absurd t.1 (by decide +kernel)) (fun t => absurd bN (Nat.not_lt.mpr t.2))
          rcases Hm b bN c with z | ⟨s, u, v, w1, w2, w3, w4, w5⟩
          · exact R278a h4 hb bB (e7.trans z)
          · exact R278b h1 h4 hb bB (show rD hr (.inl 117) b = _ by unfold rD; rw [e7]; exact w5) w3 w4 w1 w2
        · obtain ⟨bM, Nb⟩ := rjn_9 bN NB bB BM
          obtain ⟨-, u, v, Q⟩ := Z.2.2.1.2.2.2.1 (b - N) bM
          have q := Q.2.2.2.2.2.2.2.2.2.2.2.1
          rw [Nb] at q
          exact R278b h1 h4 hb bB q (Nat.lt_of_lt_of_le Q.1 C6) (Nat.lt_of_lt_of_le Q.2.1 C6) S12 (fun e => ne e.symm)
      rw [E]
      exact rj_copy D Hm oC lt S12 h1 h2 hs h4 NB j (b + 1) k M a3 (a5 + 1) e' hb1 ha (rjn_11 K c) BM room Z
end RV
/-! ===== corners of a shape copied into the draft ===== -/
section RX
variable {h g hc hr : mx_H} {S N n C M k s1 s o C1 c d : Nat} {a1 a2 a3 a4 : Int32}
theorem rP {o' i : Nat} {v : Int32} (ho : o ≠ o') : (mx_uI h (.inr (S, o')) i v).2.1 (.inr (s, o)) = h.2.1 (.inr (s, o)) := funext fun _ => rI_a (fun e => by
  cases e
  exact ho rfl)
def k_cc (h : mx_H) (S s1 d c : Nat) : mx_H := mx_uI (mx_uI (mx_uI (mx_uI (mx_uI h (.inr (S, 1)) d (h.2.1 (.inr (s1, 1)) c)) (.inr (S, 2)) d (h.2.1 (.inr (s1, 2)) c)) (.inr (S, 3)) d (h.2.1 (.inr (s1, 3)) c)) (.inr (S, 4)) d (h.2.1 (.inr (s1, 4)) c)) (.inr (S, 0)) 0 (h.2.1 (.inr (S, 0)) 0 + 1)
theorem C64c (hC : rD h (.inr (s1, 0)) 0 = C1) (hd : rD h (.inr (S, 0)) 0 = d) (d6 : d < 6) (ha : a3.toInt = (c : Int)) (hc1 : c < C1) : g64_7 S s1 a2 a3 h = g64_7 S s1 a2 (a3 + 1) (k_cc h S s1 d c) := by
  rw [g64_7_eq, if_neg (i_nle hC ha (by omega)), if_neg (i_nle k_6 hd (by omega))]
  simp only [rP (o := 0) (o' := 1) (by decide +kernel), rP (o := 0) (o' := 2) (by decide +kernel), rP (o := 0) (o' := 3) (by decide +kernel), rP (o := 0) (o' := 4) (by decide +kernel), rP (o := 2) (o' := 1) (by decide +kernel), rP (o := 3) (o' := 1) (by decide +kernel), rP (o := 3) (o' := 2) (by decide +kernel), rP (o := 4) (o' := 1) (by decide +kernel), rP (o := 4) (o' := 2) (by decide +kernel), rP (o := 4) (o' := 3) (by decide +kernel)]
  rw [i_cl hd, i_cl ha]
  rfl
/-- c corners of s1 stand from corner o on -/
def kc_F (h g : mx_H) (S s1 o c : Nat) : Prop := g.1 = h.1 ∧ g.2.2 = h.2.2 ∧ (∀ q i, g.2.1 (.inl q) i = h.2.1 (.inl q) i) ∧ (∀ s x i, ¬ (s = S ∧ x ≤ 4 ∧ (x = 0 → i = 0)) → g.2.1 (.inr (s, x)) i = h.2.1 (.inr (s, x)) i) ∧ rD g (.inr (S, 0)) 0 = ((o + c : Nat) : Int) ∧
  (∀ x i, 1 ≤ x → x ≤ 4 → i < o → g.2.1 (.inr (S, x)) i = h.2.1 (.inr (S, x)) i) ∧ ∀ x i, 1 ≤ x → x ≤ 4 → i < c → g.2.1 (.inr (S, x)) (o + i) = h.2.1 (.inr (s1, x)) i
theorem k_cc_r {x i : Nat} (h1 : 1 ≤ x) (h4 : x ≤ 4) : (k_cc h S s1 d c).2.1 (.inr (S, x)) i = if i = d then h.2.1 (.inr (s1, x)) c else h.2.1 (.inr (S, x)) i := by
  unfold k_cc
  rw [rP (by omega)]
  by_cases e : i = d
  · rw [if_pos e]
    rcases (show x = 1 ∨ x = 2 ∨ x = 3 ∨ x = 4 by omega) with t | t | t | t
    · subst t
      rw [rP (by decide +kernel), rP (by decide +kernel), rP (by decide +kernel), rI_c rfl e]
    · subst t
      rw [rP (by decide +kernel), rP (by decide +kernel), rI_c rfl e]
    · subst t
      rw [rP (by decide +kernel), rI_c rfl e]
    · subst t
      rw [rI_c rfl e]
  · rw [if_neg e, rI_i e, rI_i e, rI_i e, rI_i e]
theorem k_cc_o {x i : Nat} (q : ¬ (s = S ∧ x ≤ 4 ∧ (x = 0 → i = 0))) : (k_cc h S s1 d c).2.1 (.inr (s, x)) i = h.2.1 (.inr (s, x)) i := by
  have ne : ∀ o' : Nat, 1 ≤ o' → o' ≤ 4 → (Sum.inr (s, x) : mx_A) ≠ .inr (S, o') := fun o' w1 w2 e => by
    cases e
    exact q ⟨rfl, w2, fun t => by omega⟩
  unfold k_cc
  rw [show ∀ (H : mx_H) (v : Int32), (mx_uI H (.inr (S, 0)) 0 v).2.1 (.inr (s, x)) i = H.2.1 (.inr (s, x)) i from fun H v => if_neg (fun e => by
    have e1 := e.1
    have e2 := e.2
    cases e1
    exact q ⟨rfl, by decide +kernel, fun _ => e2⟩), rI_a (ne 4 (by decide +kernel) (by decide +kernel)), rI_a (ne 3 (by decide +kernel) (by decide +kernel)), rI_a (ne 2 (by decide +kernel) (by decide +kernel)), rI_a (ne 1 (by decide +kernel) (by decide +kernel))]
theorem C64l (ne : s1 ≠ S) (hC : rD h (.inr (s1, 0)) 0 = C1) (oC : o + C1 ≤ 6) : ∀ (j c : Nat) (a3 : Int32) {g : mx_H}, c + j = C1 → a3.toInt = (c : Int) → kc_F h g S s1 o c → ∃ g', g64_7 S s1 a2 a3 g = g64_102 S s1 a2 0 g' ∧ kc_F h g' S s1 o C1
  | 0, c, a3, g, e, ha, F => by
    have hg : rD g (.inr (s1, 0)) 0 = C1 := by
      unfold rD
      rw [F.2.2.2.1 s1 0 0 (fun t => ne t.1)]
      exact hC
    refine ⟨g, ?_, (show c = C1 by omega) ▸ F⟩
    rw [g64_7_eq, if_pos (i_le hg ha (by omega))]
  | j + 1, c, a3, g, e, ha, F => by
    obtain ⟨f1, f2, f3, f4, f5, f6, f7⟩ := F
    have hg : rD g (.inr (s1, 0)) 0 = C1 := by
      unfold rD
      rw [f4 s1 0 0 (fun t => ne t.1)]
      exact hC
    rw [C64c (d := o + c) hg f5 (by omega) ha (by omega)]
    refine C64l ne hC oC j (c + 1) (a3 + 1) (by omega) ((i_add ha k_1 (by omega) (by omega)).trans (by omega)) ⟨f1, f2, f3, fun s x i q => (k_cc_o q).trans (f4 s x i q), ?_, fun x i w1 w2 hi => ?_, fun x i w1 w2 hi => ?_⟩
    · unfold rD k_cc
      rw [rI_s]
      exact (i_add f5 k_1 (by omega) (by omega)).trans (by omega)
    · rw [k_cc_r w1 w2, if_neg (by omega)]
      exact f6 x i w1 w2 hi
    · rw [k_cc_r w1 w2]
      by_cases t : i = c
      · rw [if_pos (by omega), t]
        exact f4 s1 x c (fun q => ne q.1)
      · rw [if_neg (by omega)]
        exact f7 x i w1 w2 (by omega)
/-! the reference's corners -/
def r_cc (h : mx_H) (d c : Nat) : mx_H := mx_uI (mx_uI (mx_uI (mx_uI h (.inl 107) d (h.2.1 (.inl 107) c)) (.inl 108) d (h.2.1 (.inl 108) c)) (.inl 109) d (h.2.1 (.inl 109) c)) (.inl 110) d (vp_nar .boolean (h.2.1 (.inl 110) c))
theorem R279c (h1 : a1.toInt = (s1 : Int)) (h2 : a2.toInt = (S : Int)) (h3 : a3.toInt = (o : Int)) (h4 : a4.toInt = (c : Int)) (hC : rD h (.inl 106) s1 = C1) (hc1 : c < C1) (oC : o + C1 ≤ 6) (S12 : S ≤ 12) (s12 : s1 ≤ 12) : g279_3 a1 a2 a3 a4 h = g279_3 a1 a2 a3 (a4 + 1) (r_cc h (6 * S + o + c) (6 * s1 + c)) := by
  have e1 := w6 h2 h3 S12 (show o < 6 by omega)
  have e2 : (6 * a2 + a3 + a4).toInt = ((6 * S + o + c : Nat) : Int) := (i_add e1 h4 (by omega) (by omega)).trans (by omega)
  have e3 := w6 h1 h4 s12 (show c < 6 by omega)
  rw [g279_3_eq, i_cl h1, if_neg (i_nle hC h4 (by omega)), i_cl e2, i_cl e3]
  rfl
def rc_F (h g : mx_H) (S s1 o c : Nat) : Prop := g.1 = h.1 ∧ g.2.2 = h.2.2 ∧ (∀ q i, g.2.1 (.inr q) i = h.2.1 (.inr q) i) ∧ (∀ q i, ¬ (107 ≤ q ∧ q ≤ 110 ∧ 6 * S + o ≤ i ∧ i < 6 * S + 6) → g.2.1 (.inl q) i = h.2.1 (.inl q) i) ∧ ∀ q i, 107 ≤ q → q ≤ 110 → i < c → g.2.1 (.inl q) (6 * S + o + i) = h.2.1 (.inl q) (6 * s1 + i)
theorem nar01 {x : Int32} (hx : x = 0 ∨ x = 1) : vp_nar .boolean x = x := by
  rcases hx with e | e
  · rw [e]
    rfl
  · rw [e]
    rfl
theorem r_cc_r {q i : Nat} (h1 : 107 ≤ q) (h2 : q ≤ 110) (hb : h.2.1 (.inl 110) c = 0 ∨ h.2.1 (.inl 110) c = 1) : (r_cc h d c).2.1 (.inl q) i = if i = d then h.2.1 (.inl q) c else h.2.1 (.inl q) i := by
  unfold r_cc
  rw [nar01 hb]
  by_cases e : i = d
  · rw [if_pos e]
    rcases (show q = 107 ∨ q = 108 ∨ q = 109 ∨ q = 110 by omega) with t | t | t | t
    · subst t
      rw [rN (by decide +kernel), rN (by decide +kernel), rN (by decide +kernel), rI_c rfl e]
    · subst t
      rw [rN (by decide +kernel), rN (by decide +kernel), rI_c rfl e]
    · subst t
      rw [rN (by decide +kernel), rI_c rfl e]
    · subst t
      rw [rI_c rfl e]
  · rw [if_neg e, rI_i e, rI_i e, rI_i e, rI_i e]
theorem r_cc_o {q i : Nat} (t : ¬ (107 ≤ q ∧ q ≤ 110)) : (r_cc h d c).2.1 (.inl q) i = h.2.1 (.inl q) i := by
  unfold r_cc
  rw [rN (by omega), rN (by omega), rN (by omega), rN (by omega)]
theorem R279l (lt : s1 < S) (S12 : S ≤ 12) (h1 : a1.toInt = (s1 : Int)) (h2 : a2.toInt = (S : Int)) (h3 : a3.toInt = (o : Int)) (hC : rD h (.inl 106) s1 = C1) (oC : o + C1 ≤ 6) (hb : ∀ i, i < C1 → h.2.1 (.inl 110) (6 * s1 + i) = 0 ∨ h.2.1 (.inl 110) (6 * s1 + i) = 1) : ∀ (j c : Nat) (a4 : Int32) {g : mx_H}, c + j = C1 → a4.toInt = (c : Int) → rc_F h g S s1 o c → rc_F h (g279_3 a1 a2 a3 a4 g) S s1 o C1
  | 0, c, a4, g, e, ha, F => by
    have hg : rD g (.inl 106) s1 = C1 := by
      unfold rD
      rw [F.2.2.2.1 106 s1 (by omega)]
      exact hC
    rw [g279_3_eq, i_cl h1, if_pos (i_le hg ha (by omega))]
    exact (show c = C1 by omega) ▸ F
  | j + 1, c, a4, g, e, ha, F => by
    obtain ⟨f1, f2, f3, f4, f5⟩ := F
    have hg : rD g (.inl 106) s1 = C1 := by
      unfold rD
      rw [f4 106 s1 (by omega)]
      exact hC
    have bb : g.2.1 (.inl 110) (6 * s1 + c) = 0 ∨ g.2.1 (.inl 110) (6 * s1 + c) = 1 := by
      rw [f4 110 (6 * s1 + c) (by omega)]
      exact hb c (by omega)
    rw [R279c h1 h2 h3 ha hg (by omega) oC S12 (by omega)]
    refine R279l lt S12 h1 h2 h3 hC oC hb j (c + 1) (a4 + 1) (by omega) ((i_add ha k_1 (by omega) (by omega)).trans (by omega)) ⟨f1, f2, f3, fun q i t => ?_, fun q i w1 w2 hi => ?_⟩
    · by_cases w : 107 ≤ q ∧ q ≤ 110
      · rw [r_cc_r w.1 w.2 bb, if_neg (by omega)]
        exact f4 q i t
      · rw [r_cc_o w]
        exact f4 q i t
    · rw [r_cc_r w1 w2 bb]
      by_cases t : i = c
      · rw [if_pos (by omega), t]
        exact f4 q (6 * s1 + c) (by omega)
      · rw [if_neg (by omega)]
        exact f5 q i w1 w2 (by omega)
end RX
/-! ===== a shape more, however it was drafted ===== -/
section RY
variable {hc hr hx gc gM : mx_H} {S N n C : Nat}
theorem rs_grow (A : rs_A hc hr S N) (S11 : S ≤ 11) (nn : N + n ≤ 200) (C1 : 1 ≤ C) (a : rz_FW S hc hx) (x5 : rD hx (.inr (S, 0)) 5 = N) (B : k_B hx gc N (N + n) S) (hM : rD gM (.inl 105) 1 = ((S + 1 : Nat) : Int)) (J : rj_J hx gM S C N n) (er : ∀ s, s < S → rs_er s hr gM) (l7 : ∀ i, i < N → gM.2.1 (.inl 116) i = hr.2.1 (.inl 116) i ∧ gM.2.1 (.inl 117) i = hr.2.1 (.inl 117) i)
    (c0 : rD hx (.inr (S, 0)) 0 = C) (r6 : rD gM (.inl 106) S = C) (cc : ∀ c, c < C → hx.2.1 (.inr (S, 1)) c = gM.2.1 (.inl 107) (6 * S + c) ∧ hx.2.1 (.inr (S, 2)) c = gM.2.1 (.inl 108) (6 * S + c) ∧ hx.2.1 (.inr (S, 3)) c = gM.2.1 (.inl 109) (6 * S + c) ∧ hx.2.1 (.inr (S, 4)) c = gM.2.1 (.inl 110) (6 * S + c))
    (par : hx.2.1 (.inr (S, 0)) 11 = gM.2.1 (.inl 114) S ∧ (¬ gM.2.1 (.inl 114) S = -1 → hx.2.1 (.inr (S, 0)) 12 = gM.2.1 (.inl 115) S)) : rs_A (k_N gc S) gM (S + 1) (N + n) := by
  obtain ⟨a1, a2, a3, a4, a5, a6, a7, a8, a9, a10⟩ := A
  obtain ⟨C6, j1, j2, j3, j4, j5⟩ := J
  obtain ⟨b1, b2, b3, b4, b5, b6, b7⟩ := B
  have xr : hx.2.2.2 = hc.2.2.2 := congrArg Prod.snd a.2.1
  have ni : ∀ s o i, s ≤ S → (k_N gc S).2.1 (.inr (s, o)) i = hx.2.1 (.inr (s, o)) i := fun s o i q => by
    show (sn_f (k_G gc S) (S + 1)).2.1 (.inr (s, o)) i = _
    rw [sn_io i (by omega)]
    exact b2 (s, o) i
  have nl : ∀ q i, ¬ (q = 0 ∧ i = 2) → (k_N gc S).2.1 (.inl q) i = gc.2.1 (.inl q) i := fun q i e => by
    show (k_G gc S).2.1 (.inl q) i = _
    exact if_neg (fun z => e ⟨Sum.inl.inj z.1, z.2⟩)
  have nr : ∀ q i, ¬ (q = 0 ∧ i = 3) → ¬ (q = 3 ∧ i = S) → (k_N gc S).2.2.2 (.inl q) i = gc.2.2.2 (.inl q) i := fun q i e1 e2 => by
    refine (if_neg (fun z => e1 ⟨Sum.inl.inj z.1, z.2⟩)).trans ?_
    exact if_neg (fun z => e2 ⟨Sum.inl.inj z.1, z.2⟩)
  have kx : ∀ q u v, rs_k hx gM S C N q u v → rs_k (k_N gc S) gM S C N q u v := fun q u v Q => by
    obtain ⟨o1, o2, o3, o4, o5, o6, o7, o8, o9, o10, o11, o12⟩ := Q
    unfold rs_k rD
    rw [ni S 5 q (Nat.le_refl _), ni S 6 q (Nat.le_refl _), ni S 7 q (Nat.le_refl _), ni S 8 q (Nat.le_refl _)]
    exact ⟨o1, o2, o3, o4, o5, o6, o7, o8, o9, o10, o11, o12⟩
  refine ⟨by omega, nn, ?_, hM, ?_, j2, ?_, ?_, fun s hs => ⟨?_, ?_⟩, fun i hi => ?_⟩
  · show (gc.2.1 (.inl 0) 2 + 1).toInt = _
    rw [b3 0 2 (by decide +kernel) (by decide +kernel), a.2.2.1 0 2 (by omega), i_add a3 k_1 (by omega) (by omega)]
    omega
  · unfold rD
    rw [nl 90 0 (by omega)]
    exact b4
  · show gc.1 + 9 = _
    rw [b1, a.1, a7]
    omega
  · exact (rR _ _ _ _ _ _).trans (if_pos ⟨rfl, rfl⟩)
  · by_cases e : s = S
    · subst e
      refine (rR _ _ _ _ _ _).trans ?_
      rw [if_neg (fun z => absurd (Sum.inl.inj z.1) (by decide +kernel))]
      show (mx_uR gc (.inl 3) s (some (.inr (s, 0)))).2.2.2 (.inl 3) s = _
      exact (rR _ _ _ _ _ _).trans (if_pos ⟨rfl, rfl⟩)
    · rw [nr 3 s (by omega) (by omega), b5 3 s (by decide +kernel), xr]
      exact (a9 s (by omega)).1
  · by_cases e : s = S
    · subst e
      refine ⟨C, n, N, C1, C6, Nat.le_refl _, ?_, r6, ?_, ?_, fun c q => ?_, ?_, fun q hq => ?_, fun u v hu hv => ?_, j5, fun q hq => ?_⟩
      · unfold rD
        rw [ni s 0 0 (Nat.le_refl _)]
        exact c0
      · unfold rD
        rw [ni s 0 6 (Nat.le_refl _)]
        exact j1
      · unfold rD
        rw [ni s 0 5 (Nat.le_refl _)]
        exact x5
      · rw [ni s 1 c (Nat.le_refl _), ni s 2 c (Nat.le_refl _), ni s 3 c (Nat.le_refl _), ni s 4 c (Nat.le_refl _)]
        exact cc c q
      · rw [ni s 0 11 (Nat.le_refl _), ni s 0 12 (Nat.le_refl _)]
        exact par
      · obtain ⟨-, u, v, Q⟩ := j3 q hq
        exact ⟨u, v, kx q u v Q⟩
      · rcases j4 u v hu hv with z | ⟨q, q1, q2⟩
        · exact Or.inl z
        · refine Or.inr ⟨q, q1, ?_⟩
          rcases q2 with q2 | q2
          · exact Or.inl (kx _ _ _ q2)
          · exact Or.inr (kx _ _ _ q2)
      · rw [nr 92 _ (by omega) (by omega)]
        exact (b7 (N + q) (by omega) (by omega)).2
    · have hs' : s < S := by omega
      obtain ⟨C', n', F', D⟩ := (a9 s hs').2
      refine ⟨C', n', F', D.x (by omega) (fun o i ho => ?_) (er s hs') (fun i hi => ⟨(l7 i hi).2, ?_⟩)⟩
      · rw [ni s o i (by omega)]
        exact a.2.2.2 s o i (by omega)
      · rw [nr 92 i (by omega) (by omega), (b6 i hi).2, xr]
  · rw [nl 91 i (by omega), nr 92 i (by omega) (by omega)]
    by_cases c : i < N
    · rw [(b6 i c).1, (b6 i c).2, (l7 i c).1, (l7 i c).2, xr, a.2.2.1 91 i (by omega)]
      obtain ⟨q1, q2⟩ := a10 i c
      refine ⟨q1, ?_⟩
      rcases q2 with q | ⟨s, k, q1, q2, q3⟩
      · exact Or.inl q
      · refine Or.inr ⟨s, k, by omega, ?_, ?_⟩
        · unfold rD
          rw [ni s 0 6 (by omega), a.2.2.2 s 0 6 (by omega)]
          exact q2
        · unfold rD
          rw [ni s 0 5 (by omega), a.2.2.2 s 0 5 (by omega)]
          exact q3
    · refine ⟨?_, Or.inr ⟨S, i - N, by omega, ?_, ?_⟩⟩
      · rw [(b7 i (by omega) hi).1]
        have := (j3 (i - N) (by omega)).1
        rw [show N + (i - N) = i by omega] at this
        exact this.symm
      · unfold rD
        rw [ni S 0 6 (Nat.le_refl _)]
        have : rD hx (.inr (S, 0)) 6 = n := j1
        unfold rD at this
        omega
      · unfold rD
        rw [ni S 0 5 (Nat.le_refl _)]
        have : rD hx (.inr (S, 0)) 5 = N := x5
        unfold rD at this
        omega
end RY
/-! ===== questions that both sides answer alike ===== -/
section RAA
variable {h hc hr : mx_H} {S N s i j : Nat} {a x a1 a2 a3 a4 : Int32}
theorem C166 (A : rs_A hc hr S N) : (∃ s : Nat, s < S ∧ a.toInt = (s : Int) ∧ f166 a hc = some s ∧ f177 a hr = 1) ∨ (f166 a hc = none ∧ f177 a hr = 0) := by
  obtain ⟨b1, b2, b3, b4, b5, b6, b7, b8, b9, b10⟩ := A
  have e1 := i_sub b3 k_1 (by omega) (by omega)
  have e2 := i_sub b4 k_1 (by omega) (by omega)
  rw [f166_eq, f177_eq]
  by_cases q : 0 ≤ a.toInt ∧ a.toInt ≤ (S : Int) - 1
  · have ha : a.toInt = ((a.toInt.toNat : Nat) : Int) := by omega
    refine Or.inl ⟨a.toInt.toNat, by omega, ha, ?_, w173_1 rfl k_0 e2 q⟩
    rw [w157_1 rfl k_0 e1 q, if_neg n10, i_cl ha, (b9 a.toInt.toNat (by omega)).1]
    rfl
  · refine Or.inr ⟨?_, w173_0 rfl k_0 e2 q⟩
    rw [w157_0 rfl k_0 e1 q, if_pos rfl]
theorem C164 {C : Nat} (hs : a.toInt = (s : Int)) (h1 : rD hc (.inr (s, 0)) 0 = C) (h2 : rD hr (.inl 106) s = C) (C6 : C ≤ 6) : (∃ c : Nat, c < C ∧ x.toInt = (c : Int) ∧ f164 s x hc = 1 ∧ f178 a x hr = 1) ∨ (f164 s x hc = 0 ∧ f178 a x hr = 0) := by
  have e1 := i_sub h1 k_1 (by omega) (by omega)
  have e2 := i_sub h2 k_1 (by omega) (by omega)
  rw [f164_eq, f178_eq, i_cl hs]
  by_cases q : 0 ≤ x.toInt ∧ x.toInt ≤ (C : Int) - 1
  · refine Or.inl ⟨x.toInt.toNat, by omega, by omega, ?_, w173_1 rfl k_0 e2 q⟩
    rw [w157_1 rfl k_0 e1 q, if_neg n10]
  · refine Or.inr ⟨?_, w173_0 rfl k_0 e2 q⟩
    rw [w157_0 rfl k_0 e1 q, if_pos rfl]
/-- the reference counts its pieces -/
def k_bit (h : mx_H) (s i j : Nat) : Nat := if rz_g h s (6 * i + j) = true then 1 else 0
theorem R183s {m : Nat} (h1 : a1.toInt = (s : Int)) (h2 : a2.toInt = (m : Int)) (h3 : a3.toInt = (i : Int)) (h4 : a4.toInt = (j : Int)) (hs : s ≤ 12) (hi : i < 6) (hj : j < 6) (hm : m ≤ 100) (nn : ∀ p, 0 ≤ rD h (.inl 113) p) :
    ∃ b : Int32, b.toInt = ((m + k_bit h s i j : Nat) : Int) ∧ g183_15 a1 a2 a3 a4 h = g183_15 a1 b a3 (a4 + 1) h := by
  have w := w179 h1 h3 h4 hs hi hj
  rw [g183_15_eq, if_neg (i_nle k_6 h4 (by omega)), f180_eq, i_cl w]
  have n := nn (36 * s + 6 * i + j)
  unfold k_bit rz_g
  rw [show 36 * s + (6 * i + j) = 36 * s + 6 * i + j by omega]
  by_cases z : h.2.1 (.inl 113) (36 * s + 6 * i + j) = 0
  · refine ⟨a2 + 0, ?_, ?_⟩
    · rw [if_neg (by rw [decide_eq_true_iff]; exact fun t => t z), i_add h2 k_0 (by omega) (by omega)]
      omega
    · rw [z, if_pos (show (0 : Int32) ≤ 0 by decide +kernel), if_pos rfl]
  · refine ⟨a2 + 1, ?_, ?_⟩
    · rw [if_pos (by rw [decide_eq_true_iff]; exact z), i_add h2 k_1 (by omega) (by omega)]
      omega
    · have p : ¬ h.2.1 (.inl 113) (36 * s + 6 * i + j) ≤ 0 := fun t => by
        have := Int32.le_iff_toInt_le.mp t
        rw [k_0] at this
        unfold rD at n
        exact z (i_eq (show (h.2.1 (.inl 113) (36 * s + 6 * i + j)).toInt = 0 by omega) k_0 rfl)
      rw [if_neg p, if_neg n10]
def k_row (h : mx_H) (s i : Nat) : Nat → Nat → Nat
  | 0, _ => 0
  | n + 1, j => k_bit h s i j + k_row h s i n (j + 1)
theorem k_bit_1 {h : mx_H} {s i j : Nat} : k_bit h s i j ≤ 1 := by
  unfold k_bit
  split <;> omega
theorem R183r (h1 : a1.toInt = (s : Int)) (h3 : a3.toInt = (i : Int)) (hs : s ≤ 12) (hi : i < 6) (nn : ∀ p, 0 ≤ rD h (.inl 113) p) : ∀ (n j m : Nat) (a2 a4 : Int32), j + n = 6 → m + n ≤ 100 → a2.toInt = (m : Int) → a4.toInt = (j : Int) → ∃ b : Int32, b.toInt = ((m + k_row h s i n j : Nat) : Int) ∧ m + k_row h s i n j ≤ m + n ∧ g183_15 a1 a2 a3 a4 h = g183_4 a1 b (a3 + 1) h
  | 0, j, m, a2, a4, e, hm, h2, h4 => ⟨a2, h2, Nat.le_refl _, by rw [g183_15_eq, if_pos (i_le k_6 h4 (by omega))]⟩
  | n + 1, j, m, a2, a4, e, hm, h2, h4 => by
    obtain ⟨b, b1, b2⟩ := R183s (a2 := a2) h1 h2 h3 h4 hs hi (by omega) (by omega) nn
    have l := k_bit_1 (h := h) (s := s) (i := i) (j := j)
    obtain ⟨d, d1, d2, d3⟩ := R183r h1 h3 hs hi nn n (j + 1) (m + k_bit h s i j) b (a4 + 1) (by omega) (by omega) b1 ((i_add h4 k_1 (by omega) (by omega)).trans (by omega))
    refine ⟨d, ?_, ?_, b2.trans d3⟩
    · rw [d1, show k_row h s i (n + 1) j = k_bit h s i j + k_row h s i n (j + 1) from rfl]
      omega
    · rw [show k_row h s i (n + 1) j = k_bit h s i j + k_row h s i n (j + 1) from rfl]
      omega
end RAA
/-! ===== join(): two shapes copied into the draft, on both sides ===== -/
section RBB
variable {h h' h'' g hc hr c2 c4 r0 r1 r2 r3 r4 r5 : mx_H} {S N s s1 s2 i j n o c C C1 C2 n1 n2 F1 F2 : Nat} {a a1 a2 a3 a4 sS : Int32}
def k_t (h : mx_H) (s c : Nat) : Nat := if rz_g h s c = true then 1 else 0
theorem k_tc {l : List Nat} : sd_C (c :: l) (rz_g h s) = sd_C l (rz_g h s) + k_t h s c := sd_C_cons
theorem R183 (h1 : a1.toInt = (s : Int)) (hs : s ≤ 12) (nn : ∀ p, 0 ≤ rD h (.inl 113) p) : (f183 a1 h).toInt = ((sd_C sd_CL (rz_g h s) : Nat) : Int) := by
  rw [f183_eq]
  have st : ∀ (i m : Nat) (a2 a3 : Int32), i < 6 → m ≤ 50 → a2.toInt = (m : Int) → a3.toInt = (i : Int) → ∃ b : Int32, b.toInt = ((m + k_row h s i (5 - i) (i + 1) : Nat) : Int) ∧ m + k_row h s i (5 - i) (i + 1) ≤ m + 5 ∧ g183_4 a1 a2 a3 h = g183_4 a1 b (a3 + 1) h := fun i m a2 a3 hi hm h2 h3 => by
    have e : g183_4 a1 a2 a3 h = g183_15 a1 a2 a3 (a3 + 1) h := by rw [g183_4_eq, if_neg (i_nle k_6 h3 (by omega))]
    obtain ⟨b, b1, b2, b3⟩ := R183r h1 h3 hs hi nn (5 - i) (i + 1) m a2 (a3 + 1) (by omega) (by omega) h2 ((i_add h3 k_1 (by omega) (by omega)).trans (by omega))
    exact ⟨b, b1, by omega, e.trans b3⟩
  obtain ⟨b0, e0, l0, g0⟩ := st 0 0 0 0 (by omega) (by omega) rfl rfl
  obtain ⟨b1, e1, l1, g1⟩ := st 1 _ b0 (0 + 1) (by omega) (by omega) e0 rfl
  obtain ⟨b2, e2, l2, g2⟩ := st 2 _ b1 (0 + 1 + 1) (by omega) (by omega) e1 rfl
  obtain ⟨b3, e3, l3, g3⟩ := st 3 _ b2 (0 + 1 + 1 + 1) (by omega) (by omega) e2 rfl
  obtain ⟨b4, e4, l4, g4⟩ := st 4 _ b3 (0 + 1 + 1 + 1 + 1) (by omega) (by omega) e3 rfl
  obtain ⟨b5, e5, l5, g5⟩ := st 5 _ b4 (0 + 1 + 1 + 1 + 1 + 1) (by omega) (by omega) e4 rfl
  have t0 : k_row h s 0 (5 - 0) (0 + 1) = k_t h s 1 + (k_t h s 2 + (k_t h s 3 + (k_t h s 4 + (k_t h s 5 + 0)))) := rfl
  have t1 : k_row h s 1 (5 - 1) (1 + 1) = k_t h s 8 + (k_t h s 9 + (k_t h s 10 + (k_t h s 11 + 0))) := rfl
  have t2 : k_row h s 2 (5 - 2) (2 + 1) = k_t h s 15 + (k_t h s 16 + (k_t h s 17 + 0)) := rfl
  have t3 : k_row h s 3 (5 - 3) (3 + 1) = k_t h s 22 + (k_t h s 23 + 0) := rfl
  have t4 : k_row h s 4 (5 - 4) (4 + 1) = k_t h s 29 + 0 := rfl
  have t5 : k_row h s 5 (5 - 5) (5 + 1) = 0 := rfl
  have key : sd_C sd_CL (rz_g h s) = 0 + k_t h s 29 + k_t h s 23 + k_t h s 22 + k_t h s 17 + k_t h s 16 + k_t h s 15 + k_t h s 11 + k_t h s 10 + k_t h s 9 + k_t h s 8 + k_t h s 5 + k_t h s 4 + k_t h s 3 + k_t h s 2 + k_t h s 1 := by
    unfold sd_CL
    rw [k_tc, k_tc, k_tc, k_tc, k_tc, k_tc, k_tc, k_tc, k_tc, k_tc, k_tc, k_tc, k_tc, k_tc, k_tc]
    rfl
  rw [g0, g1, g2, g3, g4, g5, g183_4_eq, if_pos (show (6 : Int32) ≤ 0 + 1 + 1 + 1 + 1 + 1 + 1 by decide +kernel), e5]
  omega
theorem kc_F.W (F : kc_F h g S s1 o c) : rz_FW S h g := ⟨F.1, F.2.1, fun k i _ => F.2.2.1 k i, fun s x i q => F.2.2.2.1 s x i (fun t => q ⟨t.1, by omega⟩)⟩
theorem rj_c.W (F : rj_c S h g) : rz_FW S h g := ⟨F.1, F.2.1, fun k i _ => F.2.2.1 k i, fun s x i q => F.2.2.2 s x i (fun t => q ⟨t.1, by omega⟩)⟩
/-- the reference: no more than the new shape's places and bodies -/
def rw_r (N S : Nat) (h g : mx_H) : Prop := g.1 = h.1 ∧ g.2.2 = h.2.2 ∧ (∀ q i, g.2.1 (.inr q) i = h.2.1 (.inr q) i) ∧ ∀ k i, ¬ rz_w S k i → ¬ (k = 105 ∧ i = 12) → ¬ ((k = 116 ∨ k = 117) ∧ N ≤ i) → g.2.1 (.inl k) i = h.2.1 (.inl k) i
theorem rw_r.trans (a : rw_r N S h h') (b : rw_r N S h' h'') : rw_r N S h h'' := ⟨b.1.trans a.1, b.2.1.trans a.2.1, fun k i => (b.2.2.1 k i).trans (a.2.2.1 k i), fun k i p q r => (b.2.2.2 k i p q r).trans (a.2.2.2 k i p q r)⟩
theorem rz_FR.W (a : rz_FR S h g) : rw_r N S h g := ⟨a.1, a.2.1, a.2.2.1, fun k i q _ _ => a.2.2.2 k i q⟩
theorem rc_F.W (a : rc_F h g S s1 o c) : rw_r N S h g := ⟨a.1, a.2.1, a.2.2.1, fun k i q _ _ => a.2.2.2.1 k i (fun t => q (by unfold rz_w; omega))⟩
theorem rj_r.W (a : rj_r N S h g) : rw_r N S h g := ⟨a.1, a.2.1, a.2.2.1, fun k i q p r => a.2.2.2 k i (fun t => q (by unfold rz_w; omega)) p r⟩
theorem rw_r.e (a : rw_r N S h g) (hs : s < S) : rs_er s h g := fun k i w => by
  unfold rs_w at w
  exact a.2.2.2 k i (by unfold rz_w; omega) (by omega) (by omega)
theorem rw_r.l (a : rw_r N S h g) (hi : i < N) : g.2.1 (.inl 116) i = h.2.1 (.inl 116) i ∧ g.2.1 (.inl 117) i = h.2.1 (.inl 117) i := ⟨a.2.2.2 116 i (by unfold rz_w; omega) (by omega) (by omega), a.2.2.2 117 i (by unfold rz_w; omega) (by omega) (by omega)⟩
theorem rw_r.co (a : rw_r N S h g) (hs : s < S) : g.2.1 (.inl 106) s = h.2.1 (.inl 106) s := a.2.2.2 106 s (by unfold rz_w; omega) (by omega) (by omega)
/-- bodies of other shapes -/
theorem rs_Hm (A : rs_A hc hr S N) (D : rs_D hc hr N s1 C1 n1 F1) (l : ∀ i, i < N → g.2.1 (.inl 117) i = hr.2.1 (.inl 117) i) : ∀ b, b < N → ¬ (F1 ≤ b ∧ b < F1 + n1) → g.2.1 (.inl 117) b = 0 ∨ ∃ s u v : Nat, s ≤ 12 ∧ s ≠ s1 ∧ u < 6 ∧ v < 6 ∧ rD g (.inl 117) b = ((36 * s + 6 * u + v + 1 : Nat) : Int) := fun b hb nb => by
  obtain ⟨A1, A2, A3, A4, A5, A6, A7, A8, A9, A10⟩ := A
  unfold rD
  rw [l b hb]
  rcases (A10 b hb).2 with q | ⟨s, k, q1, q2, q3⟩
  · exact Or.inl q.1
  · obtain ⟨C, m, F, E⟩ := (A9 s q1).2
    have m6 := E.2.2.2.2.2.1
    have f5 := E.2.2.2.2.2.2.1
    have ne : s ≠ s1 := fun e => by
      subst e
      have m6' := D.2.2.2.2.2.1
      have f5' := D.2.2.2.2.2.2.1
      omega
    obtain ⟨u, v, Q⟩ := E.2.2.2.2.2.2.2.2.2.1 k (by omega)
    have u1 := Q.1
    have v1 := Q.2.1
    have C6 := E.2.1
    have q12 := Q.2.2.2.2.2.2.2.2.2.2.2.1
    rw [show F + k = b by omega] at q12
    exact Or.inr ⟨s, u, v, by omega, ne, by omega, by omega, q12⟩
/-! numbers, apart from the heaps -/
theorem rjb_n (l1 : s1 < S) (l2 : s2 < S) (S11 : S ≤ 11) (nn : N + (n1 + n2 + 1) ≤ 200) (CC : C1 + C2 ≤ 6) : s1 ≠ S ∧ s2 ≠ S ∧ S ≤ 12 ∧ C1 + C2 ≤ 2147483647 ∧ 0 + C1 ≤ C1 + C2 ∧ C1 ≤ 6 ∧ C2 ≤ 6 := ⟨by omega, by omega, by omega, by omega, by omega, by omega, by omega⟩
theorem rjb_r (nn : N + (n1 + n2 + 1) ≤ 200) : N + 0 + (n1 - 0) ≤ 200 ∧ N + n1 + (n2 - 0) ≤ 200 ∧ n1 + (n2 - 0) = n1 + n2 ∧ 0 + (n1 - 0) = n1 := ⟨by omega, by omega, by omega, by omega⟩
theorem rjb_36 {u v : Nat} (hu : u < 6) (hv : v < 6) : 6 * u + v < 36 := by omega
theorem rjb_c0 : ¬ (S = S ∧ ((0 = 0 ∧ 0 = 6) ∨ (5 ≤ 0 ∧ 0 < 9))) := by omega
theorem rjb_cx {x : Nat} (l1 : 1 ≤ x) (l2 : x ≤ 4) (P : Prop) : ¬ (P ∧ ((x = 0 ∧ i = 6) ∨ (5 ≤ x ∧ x < 9))) := fun t => by omega
theorem rjb_kx {x : Nat} (h : 5 ≤ x) (P Q : Prop) : ¬ (P ∧ x ≤ 4 ∧ Q) := fun t => absurd t.2.1 (by omega)
theorem rjb_k0 (P : Prop) : ¬ (P ∧ 0 ≤ 4 ∧ (0 = 0 → 6 = 0)) := fun t => absurd (t.2.2 rfl) (by decide +kernel)
theorem rjb_x4 {x : Nat} (l1 : 1 ≤ x) (l2 : x ≤ 4) : x = 1 ∨ x = 2 ∨ x = 3 ∨ x = 4 := by omega
theorem rjb_w {x : Nat} (l1 : 1 ≤ x) (l2 : x ≤ 4) (hi : i < 6) : rs_w s (106 + x) (6 * s + i) := by
  unfold rs_w
  omega
theorem rjb_q {q : Nat} (l1 : 106 ≤ q) (l2 : q ≤ 110) (P : Prop) : ¬ ((q = 111 ∨ q = 112 ∨ q = 113) ∧ P) ∧ (¬ (q = 105 ∧ i = 12)) ∧ ¬ ((q = 116 ∨ q = 117) ∧ P) := ⟨fun t => by omega, fun t => by omega, fun t => by omega⟩
theorem rjb_s {x c : Nat} (hc1 : c < C1) : ¬ (107 ≤ 106 + x ∧ 106 + x ≤ 110 ∧ 6 * S + C1 ≤ 6 * S + c ∧ 6 * S + c < 6 * S + 6) := by omega
theorem rjb_e {c : Nat} (h : ¬ c < C1) (hc : c < C1 + C2) (CC : C1 + C2 ≤ 6) : c - C1 < C2 ∧ C1 + (c - C1) = c ∧ 6 * S + C1 + (c - C1) = 6 * S + c ∧ c - C1 < 6 := ⟨by omega, by omega, by omega, by omega⟩
theorem rjb_o {u v u0 v0 : Nat} (p1 : u0 < C1) (p2 : v0 < C1) (w : (u = 0 + u0 ∧ v = 0 + v0) ∨ (u = 0 + v0 ∧ v = 0 + u0)) : u < C1 ∧ v < C1 := ⟨by omega, by omega⟩
theorem rjb_p {u v u0 v0 : Nat} (w : (u = C1 + u0 ∧ v = C1 + v0) ∨ (u = C1 + v0 ∧ v = C1 + u0)) : C1 ≤ u ∧ C1 ≤ v := ⟨by omega, by omega⟩
/-- both shapes stand in the draft -/
theorem rj_both (A : rs_A hc hr S N) (lt1 : s1 < S) (lt2 : s2 < S) (D1 : rs_D hc hr N s1 C1 n1 F1) (D2 : rs_D hc hr N s2 C2 n2 F2) (S11 : S ≤ 11) (nn : N + (n1 + n2 + 1) ≤ 200) (CC : C1 + C2 ≤ 6) (h1 : a1.toInt = (s1 : Int)) (h2 : a2.toInt = (s2 : Int)) (hS : sS.toInt = (S : Int)) (hb : ∀ i, hr.2.1 (.inl 110) i = 0 ∨ hr.2.1 (.inl 110) i = 1)
    (e2 : c2 = f64 S s1 (f59 S hc)) (e4 : c4 = f64 S s2 c2) (q0 : r0 = f182 sS hr) (q1 : r1 = mx_uI r0 (.inl 106) S (r0.2.1 (.inl 106) s1 + r0.2.1 (.inl 106) s2)) (q2 : r2 = f279 a1 sS 0 r1) (q3 : r3 = f279 a2 sS (r2.2.1 (.inl 106) s1) r2) (q4 : r4 = f278 a1 sS 0 r3) (q5 : r5 = f278 a2 sS (r4.2.1 (.inl 106) s1) r4) :
    rz_FW S hc c2 ∧ rz_FW S hc c4 ∧ rw_r N S hr r2 ∧ rw_r N S hr r4 ∧ rw_r N S hr r5 ∧ rj_J c4 r5 S (C1 + C2) N (n1 + n2) ∧ (∀ u v, u < 6 → v < 6 → ¬ r5.2.1 (.inl 113) (36 * S + 6 * u + v) = 0 → (u < C1 ∧ v < C1) ∨ (C1 ≤ u ∧ C1 ≤ v)) ∧ rD c4 (.inr (S, 0)) 0 = ((C1 + C2 : Nat) : Int) ∧ rD r5 (.inl 106) S = ((C1 + C2 : Nat) : Int) ∧
    (∀ x c, 1 ≤ x → x ≤ 4 → c < C1 + C2 → c4.2.1 (.inr (S, x)) c = r5.2.1 (.inl (106 + x)) (6 * S + c)) := by
  obtain ⟨A1, A2, A3, A4, A5, A6, A7, A8, A9, A10⟩ := id A
  obtain ⟨n1S, n2S, S12, CCm, zC, C16, C26⟩ := rjb_n lt1 lt2 S11 nn CC
  obtain ⟨room1, room2, en2, en1⟩ := rjb_r nn
  have k1c := D1.2.2.2.1
  have k2c := D2.2.2.2.1
  have k1r := D1.2.2.2.2.1
  have k2r := D2.2.2.2.2.1
  obtain ⟨F0, z0, z6, z11, z12, -⟩ := C59s S hc
  -- the class: corners of the first
  have dS1 : rD (f59 S hc) (.inr (s1, 0)) 0 = C1 := by
    unfold rD
    rw [F0.2.2.2 s1 0 0 (fun t => n1S t.1)]
    exact k1c
  obtain ⟨c1, ec1, K1⟩ := C64l (a2 := 0) (o := 0) n1S dS1 (Nat.le_trans (Nat.le_of_eq (Nat.zero_add _)) C16) C1 0 0 (g := f59 S hc) (Nat.zero_add _) rfl ⟨rfl, rfl, fun _ _ => rfl, fun _ _ _ _ => rfl, by unfold rD; rw [z0]; rfl, fun _ _ _ _ t => absurd t (Nat.not_lt_zero _), fun _ _ _ _ t => absurd t (Nat.not_lt_zero _)⟩
  have W1 : rz_FW S hc c1 := F0.trans K1.W
  have E2 : c2 = g64_102 S s1 0 0 c1 := by rw [e2, f64_eq, z0, ec1]
  -- the reference: cleared, corners of both
  obtain ⟨G0, g5, g6, gz, g36⟩ := R182 (h := hr) hS S12
  rw [← q0] at G0 g5 g6 gz g36
  have w0 : rw_r N S hr r0 := G0.W
  have r0a : rD r0 (.inl 106) s1 = C1 := by
    unfold rD
    rw [w0.co lt1]
    exact k1r
  have r0b : rD r0 (.inl 106) s2 = C2 := by
    unfold rD
    rw [w0.co lt2]
    exact k2r
  have sum := i_addn r0a r0b CCm
  have w1 : rw_r N S r0 r1 := by
    rw [q1]
    exact (rz_FR.refl.u (Or.inr (Or.inl ⟨rfl, rfl⟩))).W
  have w01 := w0.trans w1
  have r1S : rD r1 (.inl 106) S = ((C1 + C2 : Nat) : Int) := by
    unfold rD
    rw [q1, rI_s, sum]
  have r1a : rD r1 (.inl 106) s1 = C1 := by
    unfold rD
    rw [w01.co lt1]
    exact k1r
  have hb1 : ∀ s i, s < S → i < 6 → r1.2.1 (.inl 110) (6 * s + i) = 0 ∨ r1.2.1 (.inl 110) (6 * s + i) = 1 := fun s i hs hi => by
    rw [w01.e hs 110 (6 * s + i) (rjb_w (x := 4) (by decide +kernel) (by decide +kernel) hi)]
    exact hb _
  have R1 : rc_F r1 r2 S s1 0 C1 := by
    rw [q2, f279_eq]
    exact R279l (o := 0) lt1 S12 h1 hS k_0 r1a (Nat.le_trans (Nat.le_of_eq (Nat.zero_add _)) C16) (fun i hi => hb1 s1 i lt1 (Nat.lt_of_lt_of_le hi C16)) C1 0 0 (Nat.zero_add _) rfl ⟨rfl, rfl, fun _ _ => rfl, fun _ _ _ => rfl, fun _ _ _ _ t => absurd t (Nat.not_lt_zero _)⟩
  have w2 : rw_r N S hr r2 := w01.trans R1.W
  have r2a : rD r2 (.inl 106) s1 = C1 := by
    unfold rD
    rw [w2.co lt1]
    exact k1r
  have r2b : rD r2 (.inl 106) s2 = C2 := by
    unfold rD
    rw [w2.co lt2]
    exact k2r
  have R2 : rc_F r2 r3 S s2 C1 C2 := by
    rw [q3, f279_eq]
    refine R279l lt2 S12 h2 hS r2a r2b CC (fun i hi => ?_) C2 0 0 (Nat.zero_add _) rfl ⟨rfl, rfl, fun _ _ => rfl, fun _ _ _ => rfl, fun _ _ _ _ t => absurd t (Nat.not_lt_zero _)⟩
    rw [w2.e lt2 110 (6 * s2 + i) (rjb_w (x := 4) (by decide +kernel) (by decide +kernel) (Nat.lt_of_lt_of_le hi C26))]
    exact hb _
  have w3 : rw_r N S hr r3 := w2.trans R2.W
  have r3n : rD r3 (.inl 105) 12 = N := by
    unfold rD
    rw [R2.2.2.2.1 105 12 (fun t => absurd t.1 (by decide +kernel)), R1.2.2.2.1 105 12 (fun t => absurd t.1 (by decide +kernel)), q1, rN (by decide +kernel), g5 12]
    exact A6
  have r3z : ∀ c, c < 36 → r3.2.1 (.inl 113) (36 * S + c) = 0 := fun c hc1 => by
    rw [R2.2.2.2.1 113 _ (fun t => absurd t.2.1 (by decide +kernel)), R1.2.2.2.1 113 _ (fun t => absurd t.2.1 (by decide +kernel)), q1, rN (by decide +kernel)]
    exact g36 c hc1
  have l3 : ∀ i, i < N → r3.2.1 (.inl 117) i = hr.2.1 (.inl 117) i := fun i hi => (w3.l hi).2
  have ref92 : ∀ {x : mx_H}, rz_FW S hc x → ∀ i, x.2.2.2 (.inl 92) i = hc.2.2.2 (.inl 92) i := fun W i => by rw [show _ = hc.2.2.2 from congrArg Prod.snd W.2.1]
  -- the first one's pieces
  have D1' : rs_D c1 r3 N s1 C1 n1 F1 := D1.x (Nat.le_refl _) (rs_ecF W1 lt1) (w3.e lt1) (fun i hi => ⟨l3 i hi, ref92 W1 i⟩)
  have J0 : rj_J c1 r3 S (C1 + C2) N 0 := by
    refine ⟨CC, ?_, r3n, fun q hq => absurd hq (Nat.not_lt_zero _), fun u v hu hv => Or.inl ?_, ?_⟩
    · unfold rD
      rw [K1.2.2.2.1 S 0 6 (rjb_k0 _), z6]
      rfl
    · rw [Nat.add_assoc]
      exact r3z _ (rjb_36 hu hv)
    · symm
      unfold sd_C
      rw [List.filter_eq_nil_iff.mpr (fun c hc1 => ?_)]
      · rfl
      · have lt : ∀ c ∈ sd_CL, c < 36 := by decide +kernel
        unfold rz_g
        rw [decide_eq_true_iff]
        exact fun t => t (r3z c (lt c hc1))
  have Z1 := rj_copy (C := C1 + C2) (o := 0) (B := N) (a4 := r3.2.1 (.inl 105) 12) (c2 := 0) D1' (rs_Hm A D1 l3) zC lt1 S12 h1 k_0 hS r3n (Nat.le_refl _) N 0 0 0 0 0 (hc := c1) (hr := r3) (Nat.zero_add _) rfl rfl (Or.inl ⟨Nat.zero_le _, rfl⟩) (Nat.le_refl _) room1 ⟨rj_c.refl, rj_r.refl, J0, fun u v hu hv t => absurd (by rw [Nat.add_assoc]; exact r3z _ (rjb_36 hu hv)) t⟩
  rw [en1, ← E2, show g278_9 a1 sS 0 (r3.2.1 (.inl 105) 12) 0 r3 = r4 by rw [q4, f278_eq]] at Z1
  obtain ⟨y1, y2, y3, y4⟩ := Z1
  have W2 : rz_FW S hc c2 := W1.trans y1.W
  have w4 : rw_r N S hr r4 := w3.trans y2.W
  -- corners of the second
  have c2S : rD c2 (.inr (S, 0)) 0 = C1 := by
    unfold rD
    rw [y1.2.2.2 S 0 0 rjb_c0]
    exact K1.2.2.2.2.1.trans (by rw [Nat.zero_add])
  have dS2 : rD c2 (.inr (s2, 0)) 0 = C2 := by
    unfold rD
    rw [W2.2.2.2 s2 0 0 (fun t => n2S t.1)]
    exact k2c
  obtain ⟨c3, ec3, K2⟩ := C64l (a2 := c2.2.1 (.inr (S, 0)) 0) (o := C1) n2S dS2 CC C2 0 0 (g := c2) (Nat.zero_add _) rfl ⟨rfl, rfl, fun _ _ => rfl, fun _ _ _ _ => rfl, c2S, fun _ _ _ _ _ => rfl, fun _ _ _ _ t => absurd t (Nat.not_lt_zero _)⟩
  have W3 : rz_FW S hc c3 := W2.trans K2.W
  have E4 : c4 = g64_102 S s2 (c2.2.1 (.inr (S, 0)) 0) 0 c3 := by rw [e4, f64_eq, ec3]
  have r4a : rD r4 (.inl 106) s1 = C1 := by
    unfold rD
    rw [w4.co lt1]
    exact k1r
  have oo : r4.2.1 (.inl 106) s1 = c2.2.1 (.inr (S, 0)) 0 := i_eq r4a c2S rfl
  have l4 : ∀ i, i < N → r4.2.1 (.inl 117) i = hr.2.1 (.inl 117) i := fun i hi => (w4.l hi).2
  have D2' : rs_D c3 r4 N s2 C2 n2 F2 := D2.x (Nat.le_refl _) (rs_ecF W3 lt2) (w4.e lt2) (fun i hi => ⟨l4 i hi, ref92 W3 i⟩)
  have kx : ∀ q u v, rs_k c2 r4 S (C1 + C2) N q u v → rs_k c3 r4 S (C1 + C2) N q u v := fun q u v Q => by
    obtain ⟨o1, o2, o3, o4, o5, o6, o7, o8, o9, o10, o11, o12⟩ := Q
    unfold rs_k rD
    rw [K2.2.2.2.1 S 5 q (rjb_kx (by decide +kernel) _ _), K2.2.2.2.1 S 6 q (rjb_kx (by decide +kernel) _ _), K2.2.2.2.1 S 7 q (rjb_kx (by decide +kernel) _ _), K2.2.2.2.1 S 8 q (rjb_kx (by decide +kernel) _ _)]
    exact ⟨o1, o2, o3, o4, o5, o6, o7, o8, o9, o10, o11, o12⟩
  have J1 : rj_J c3 r4 S (C1 + C2) N n1 := by
    obtain ⟨j0, j1, j2, j3, j4, j5⟩ := y3
    refine ⟨j0, ?_, j2, fun q hq => ?_, fun u v hu hv => ?_, j5⟩
    · unfold rD
      rw [K2.2.2.2.1 S 0 6 (rjb_k0 _)]
      exact j1
    · obtain ⟨b, u, v, Q⟩ := j3 q hq
      exact ⟨b, u, v, kx q u v Q⟩
    · rcases j4 u v hu hv with z | ⟨q, p1, p2⟩
      · exact Or.inl z
      · refine Or.inr ⟨q, p1, ?_⟩
        rcases p2 with p2 | p2
        · exact Or.inl (kx _ _ _ p2)
        · exact Or.inr (kx _ _ _ p2)
  have r4n : rD r4 (.inl 105) 12 = ((N + n1 : Nat) : Int) := y3.2.2.1
  have Z2 := rj_copy (C := C1 + C2) (o := C1) (B := N + n1) (a4 := r4.2.1 (.inl 105) 12) (c2 := c2.2.1 (.inr (S, 0)) 0) D2' (rs_Hm A D2 l4) (Nat.le_refl _) lt2 S12 h2 c2S hS r4n (Nat.le_add_right _ _) (N + n1) 0 0 n1 0 0 (hc := c3) (hr := r4) (Nat.zero_add _) rfl rfl (Or.inl ⟨Nat.zero_le _, rfl⟩) (Nat.le_refl _) room2 ⟨rj_c.refl, rj_r.refl, J1, fun u v hu hv t => Or.inl (by
    rcases y4 u v hu hv t with w | ⟨k', u0, v0, w1, w2, w3⟩
    · exact absurd w.1 (Nat.not_lt_zero _)
    · exact rjb_o w2.1 w2.2.1 w3)⟩
  rw [en2, ← E4, show g278_9 a2 sS (c2.2.1 (.inr (S, 0)) 0) (r4.2.1 (.inl 105) 12) 0 r4 = r5 by rw [q5, f278_eq, oo]] at Z2
  obtain ⟨x1, x2, x3, x4⟩ := Z2
  have W4 : rz_FW S hc c4 := W3.trans x1.W
  have w5 : rw_r N S hr r5 := w4.trans x2.W
  have r35 : ∀ q i, 106 ≤ q → q ≤ 110 → r5.2.1 (.inl q) i = r3.2.1 (.inl q) i := fun q i l1 l2 => by rw [x2.2.2.2 q i (rjb_q (i := i) l1 l2 _).1 (rjb_q (i := i) l1 l2 True).2.1 (rjb_q (i := i) l1 l2 _).2.2, y2.2.2.2 q i (rjb_q (i := i) l1 l2 _).1 (rjb_q (i := i) l1 l2 True).2.1 (rjb_q (i := i) l1 l2 _).2.2]
  refine ⟨W2, W4, w2, w4, w5, x3, fun u v hu hv t => ?_, ?_, ?_, fun x c l1 l2 hc1 => ?_⟩
  · rcases x4 u v hu hv t with w | ⟨k', u0, v0, w1, w2, w3⟩
    · exact Or.inl w
    · exact Or.inr (rjb_p w3)
  · unfold rD
    rw [x1.2.2.2 S 0 0 rjb_c0]
    exact K2.2.2.2.2.1
  · unfold rD
    rw [r35 106 S (by decide +kernel) (by decide +kernel), R2.2.2.2.1 106 S (fun t => absurd t.1 (by decide +kernel)), R1.2.2.2.1 106 S (fun t => absurd t.1 (by decide +kernel))]
    exact r1S
  · rw [x1.2.2.2 S x c (rjb_cx l1 l2 _), r35 (106 + x) _ (Nat.le_add_right _ _) (Nat.add_le_add_left l2 106)]
    have dd : ∀ s C m F i, s < S → rs_D hc hr N s C m F → i < C → hc.2.1 (.inr (s, x)) i = hr.2.1 (.inl (106 + x)) (6 * s + i) := fun s C m F i _ D hi => by
      obtain ⟨d1, d2, d3, d4⟩ := D.2.2.2.2.2.2.2.1 i hi
      rcases (rjb_x4 l1 l2) with t | t | t | t
      · subst t
        exact d1
      · subst t
        exact d2
      · subst t
        exact d3
      · subst t
        exact d4
    by_cases t : c < C1
    · rw [K2.2.2.2.2.2.1 x c l1 l2 t, y1.2.2.2 S x c (rjb_cx l1 l2 _), R2.2.2.2.1 (106 + x) (6 * S + c) (rjb_s t)]
      have p1 := K1.2.2.2.2.2.2 x c l1 l2 t
      have p2 := R1.2.2.2.2 (106 + x) c (Nat.add_le_add_left l1 106) (Nat.add_le_add_left l2 106) t
      rw [Nat.zero_add] at p1
      rw [Nat.add_zero] at p2
      rw [p1, p2, F0.2.2.2 s1 x c (fun t => n1S t.1), w01.e lt1 (106 + x) (6 * s1 + c) (rjb_w l1 l2 (Nat.lt_of_lt_of_le t C16))]
      exact dd s1 C1 n1 F1 c lt1 D1 t
    · obtain ⟨b1, b2, b3, b4⟩ := rjb_e (S := S) t hc1 CC
      have p1 := K2.2.2.2.2.2.2 x (c - C1) l1 l2 b1
      have p2 := R2.2.2.2.2 (106 + x) (c - C1) (Nat.add_le_add_left l1 106) (Nat.add_le_add_left l2 106) b1
      rw [b2] at p1
      rw [b3] at p2
      rw [p1, p2, W2.2.2.2 s2 x (c - C1) (fun t => n2S t.1), w2.e lt2 (106 + x) (6 * s2 + (c - C1)) (rjb_w l1 l2 b4)]
      exact dd s2 C2 n2 F2 (c - C1) lt2 D2 b1
end RBB
