/-! ===== pieces of a shape copied into the draft, on both sides ===== -/
section RU
variable {h h' h'' hc hr gc gr hc0 hr0 : mx_H} {S N n C M k s1 b B u v s : Nat} {a1 a2 a3 a4 a5 : Int32}
theorem i_div {x y : Int32} {p q : Nat} (hx : x.toInt = (p : Int)) (hy : y.toInt = (q : Int)) : (x / y).toInt = ((p / q : Nat) : Int) := by
  have b := i_b x
  have l : p / q ≤ p := Nat.div_le_self _ _
  have e : ((p : Int) / (q : Int)) = ((p / q : Nat) : Int) := rfl
  generalize p / q = r at l e ⊢
  rw [Int32.toInt_div, hx, hy, Int.tdiv_eq_ediv_of_nonneg (by omega), e, iv_bm (by omega) (by omega)]
theorem R_dec {t : Int32} (ht : t.toInt = ((36 * s + 6 * u + v : Nat) : Int)) (hu : u < 6) (hv : v < 6) (s12 : s ≤ 12) : (t / 36).toInt = (s : Int) ∧ (t / 6 - t / 6 / 6 * 6).toInt = (u : Int) ∧ (t - t / 6 * 6).toInt = (v : Int) := by
  have n6 : (6 : Int32).toInt = ((6 : Nat) : Int) := rfl
  have e1 := i_div ht (show (36 : Int32).toInt = ((36 : Nat) : Int) from rfl)
  have e2 := i_div ht n6
  have e3 := i_div e2 n6
  rw [show (36 * s + 6 * u + v) / 36 = s by omega] at e1
  rw [show (36 * s + 6 * u + v) / 6 = 6 * s + u by omega] at e2 e3
  rw [show (6 * s + u) / 6 = s by omega] at e3
  have e4 := i_mul e3 k_6 (by omega) (by omega)
  have e5 := i_mul e2 k_6 (by omega) (by omega)
  refine ⟨e1, ?_, ?_⟩
  · rw [i_sub e2 e4 (by omega) (by omega)]
    omega
  · rw [i_sub ht e5 (by omega) (by omega)]
    omega
theorem R278a (h4 : a4.toInt = (B : Int)) (h5 : a5.toInt = (b : Int)) (hb : b < B) (z : h.2.1 (.inl 117) b = 0) : g278_9 a1 a2 a3 a4 a5 h = g278_9 a1 a2 a3 a4 (a5 + 1) h := by
  rw [g278_9_eq, if_neg (i_nle h4 h5 (by omega)), i_cl h5, z, if_pos (by decide +kernel)]
theorem R278t (hh : rD h (.inl 117) b = ((36 * s + 6 * u + v + 1 : Nat) : Int)) (hu : u < 6) (hv : v < 6) (s12 : s ≤ 12) : (h.2.1 (.inl 117) b - 1).toInt = ((36 * s + 6 * u + v : Nat) : Int) := by
  rw [i_sub hh k_1 (by omega) (by omega)]
  omega
theorem R278b (h1 : a1.toInt = (s1 : Int)) (h4 : a4.toInt = (B : Int)) (h5 : a5.toInt = (b : Int)) (hb : b < B) (hh : rD h (.inl 117) b = ((36 * s + 6 * u + v + 1 : Nat) : Int)) (hu : u < 6) (hv : v < 6) (s12 : s ≤ 12) (ne : s ≠ s1) : g278_9 a1 a2 a3 a4 a5 h = g278_9 a1 a2 a3 a4 (a5 + 1) h := by
  have t := R278t hh hu hv s12
  obtain ⟨d1, d2, d3⟩ := R_dec t hu hv s12
  rw [g278_9_eq, if_neg (i_nle h4 h5 (by omega)), i_cl h5, if_neg (i_nlt t k_0 (by omega)), if_neg (i_ne d1 h1 (by omega))]
theorem R278c {o : Nat} (h1 : a1.toInt = (s : Int)) (h3 : a3.toInt = (o : Int)) (o6 : o ≤ 6) (h4 : a4.toInt = (B : Int)) (h5 : a5.toInt = (b : Int)) (hb : b < B) (hh : rD h (.inl 117) b = ((36 * s + 6 * u + v + 1 : Nat) : Int)) (hu : u < 6) (hv : v < 6) (s12 : s ≤ 12) :
    ∃ x y : Int32, x.toInt = ((o + u : Nat) : Int) ∧ y.toInt = ((o + v : Nat) : Int) ∧ g278_9 a1 a2 a3 a4 a5 h = g278_9 a1 a2 a3 a4 (a5 + 1) (f193 a2 x y (f181 a2 x y (h.2.1 (.inl 105) 12) (h.2.1 (.inl 111) (36 * s + 6 * u + v)) (h.2.1 (.inl 112) (36 * s + 6 * u + v)) h)) := by
  have t := R278t hh hu hv s12
  obtain ⟨d1, d2, d3⟩ := R_dec t hu hv s12
  refine ⟨_, _, (i_add d2 h3 (by omega) (by omega)).trans (by omega), (i_add d3 h3 (by omega) (by omega)).trans (by omega), ?_⟩
  rw [g278_9_eq, if_neg (i_nle h4 h5 (by omega)), i_cl h5, if_neg (i_nlt t k_0 (by omega)), if_pos (i_eq d1 h1 rfl), i_cl t]
  rfl
/-- the class's piece k of shape s1, copied -/
def k_cp (h : mx_H) (S s1 M k : Nat) (a2 : Int32) : mx_H := mx_uI (k_ap h S M (a2 + h.2.1 (.inr (s1, 5)) k) (a2 + h.2.1 (.inr (s1, 6)) k) (h.2.1 (.inr (s1, 7)) k)) (.inr (S, 8)) M (h.2.1 (.inr (s1, 8)) k)
theorem k_apo {a c d : Int32} {q i o : Nat} (hs : q ≠ S) : (k_ap h S M a c d).2.1 (.inr (q, o)) i = h.2.1 (.inr (q, o)) i := by
  have ne : ∀ o' : Nat, (Sum.inr (q, o) : mx_A) ≠ .inr (S, o') := fun o' e => by
    cases e
    exact hs rfl
  unfold k_ap
  rw [rI_a (ne 0), rI_a (ne 8), rI_a (ne 7), rI_a (ne 6), rI_a (ne 5)]
theorem C64b (hs : s1 ≠ S) (h6 : rD h (.inr (s1, 0)) 6 = n) (hM : rD h (.inr (S, 0)) 6 = M) (M15 : M < 15) (ha : a3.toInt = (k : Int)) (hk : k < n) : g64_102 S s1 a2 a3 h = g64_102 S s1 a2 (a3 + 1) (k_cp h S s1 M k a2) := by
  rw [g64_102_eq, if_neg (i_nle h6 ha (by omega)), if_neg (i_nle k_15 hM (by omega)), i_cl ha]
  show g64_102 S s1 a2 (a3 + 1) (mx_uI (f63 S (a2 + h.2.1 (.inr (s1, 5)) k) (a2 + h.2.1 (.inr (s1, 6)) k) (h.2.1 (.inr (s1, 7)) k) h) (.inr (S, 8)) (Int32.toNatClampNeg ((f63 S (a2 + h.2.1 (.inr (s1, 5)) k) (a2 + h.2.1 (.inr (s1, 6)) k) (h.2.1 (.inr (s1, 7)) k) h).2.1 (.inr (S, 0)) 6 - 1)) ((f63 S (a2 + h.2.1 (.inr (s1, 5)) k) (a2 + h.2.1 (.inr (s1, 6)) k) (h.2.1 (.inr (s1, 7)) k) h).2.1 (.inr (s1, 8)) k)) = _
  have e : ((k_ap h S M (a2 + h.2.1 (.inr (s1, 5)) k) (a2 + h.2.1 (.inr (s1, 6)) k) (h.2.1 (.inr (s1, 7)) k)).2.1 (.inr (S, 0)) 6 - 1).toInt = (M : Int) := by
    rw [ka0, if_pos rfl, i_sub (i_add hM k_1 (by omega) (by omega)) k_1 (by omega) (by omega)]
    omega
  rw [k63 hM M15, i_cl e, k_apo hs]
  rfl
/-- what a piece more changes -/
def rj_c (S : Nat) (h h' : mx_H) : Prop := h'.1 = h.1 ∧ h'.2.2 = h.2.2 ∧ (∀ k i, h'.2.1 (.inl k) i = h.2.1 (.inl k) i) ∧ ∀ s o i, ¬ (s = S ∧ ((o = 0 ∧ i = 6) ∨ (5 ≤ o ∧ o < 9))) → h'.2.1 (.inr (s, o)) i = h.2.1 (.inr (s, o)) i
def rj_r (N S : Nat) (h g : mx_H) : Prop := g.1 = h.1 ∧ g.2.2 = h.2.2 ∧ (∀ q i, g.2.1 (.inr q) i = h.2.1 (.inr q) i) ∧ ∀ k i, ¬ ((k = 111 ∨ k = 112 ∨ k = 113) ∧ 36 * S ≤ i ∧ i < 36 * S + 36) → ¬ (k = 105 ∧ i = 12) → ¬ ((k = 116 ∨ k = 117) ∧ N ≤ i) → g.2.1 (.inl k) i = h.2.1 (.inl k) i
theorem rj_c.refl : rj_c S h h := ⟨rfl, rfl, fun _ _ => rfl, fun _ _ _ _ => rfl⟩
theorem rj_r.refl : rj_r N S h h := ⟨rfl, rfl, fun _ _ => rfl, fun _ _ _ _ _ => rfl⟩
theorem rj_c.trans (a : rj_c S h h') (b : rj_c S h' h'') : rj_c S h h'' := ⟨b.1.trans a.1, b.2.1.trans a.2.1, fun k i => (b.2.2.1 k i).trans (a.2.2.1 k i), fun s o i q => (b.2.2.2 s o i q).trans (a.2.2.2 s o i q)⟩
theorem rj_r.trans (a : rj_r N S h h') (b : rj_r N S h' h'') : rj_r N S h h'' := ⟨b.1.trans a.1, b.2.1.trans a.2.1, fun k i => (b.2.2.1 k i).trans (a.2.2.1 k i), fun k i p q r => (b.2.2.2 k i p q r).trans (a.2.2.2 k i p q r)⟩
theorem k_apF {a c d : Int32} : rj_c S h (k_ap h S M a c d) := ⟨rfl, rfl, fun _ _ => rfl, fun s o i q => by
  by_cases e : s = S
  · subst e
    by_cases e0 : o = 0
    · subst e0
      rw [ka0, if_neg (by omega)]
    · rw [kao e0 (by omega) (by omega) (by omega) (by omega)]
  · exact k_apo e⟩
theorem rj_c.w {i : Nat} {v : Int32} : rj_c S h (mx_uI h (.inr (S, 8)) i v) := ⟨rfl, rfl, fun _ _ => rfl, fun s o j q => by
  by_cases e : s = S ∧ o = 8
  · exact absurd ⟨e.1, Or.inr (by omega)⟩ q
  · exact rI_a (fun t => e ⟨congrArg Prod.fst (Sum.inr.inj t), congrArg Prod.snd (Sum.inr.inj t)⟩)⟩
theorem k_cpF : rj_c S h (k_cp h S s1 M k a2) := by
  unfold k_cp
  exact rj_c.trans k_apF rj_c.w
end RU
