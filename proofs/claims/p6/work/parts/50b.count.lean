/-! ===== reference: pieces counted; corners copied ===== -/
def sd_M (h : mx_H) (s n : Int32) (K : Int) : Prop := ((sd_C sd_CL (fun c => decide ((c : Int) < K) && sd_P h s.toNatClampNeg 1000 c) : Nat) : Int) ≤ n.toInt
theorem sd_Mle {h : mx_H} {s n n' : Int32} {K K' : Int} (q : sd_M h s n K) (hn : n.toInt ≤ n'.toInt) (hK : ∀ c ∈ sd_CL, (c : Int) < K' → (c : Int) < K) : sd_M h s n' K' := by
  unfold sd_M at *
  have := sd_C_mono (l := sd_CL) (g := fun c => decide ((c : Int) < K') && sd_P h s.toNatClampNeg 1000 c) (g' := fun c => decide ((c : Int) < K) && sd_P h s.toNatClampNeg 1000 c) (fun c hc e => by
    simp only [Bool.and_eq_true, decide_eq_true_eq] at *
    exact ⟨hK c hc e.1, e.2⟩)
  omega
theorem sd_M0 {h : mx_H} {s n : Int32} {K : Int} (hK : K ≤ 0) (hn : 0 ≤ n.toInt) : sd_M h s n K := by
  unfold sd_M
  have := sd_C_mono (l := sd_CL) (g := fun c => decide ((c : Int) < K) && sd_P h s.toNatClampNeg 1000 c) (g' := fun _ => false) (fun c hc e => by
    simp only [Bool.and_eq_true, decide_eq_true_eq] at e
    omega)
  rw [show sd_C sd_CL (fun _ => false) = 0 from rfl] at this
  omega
theorem sd_Ma {h : mx_H} {s n n' a : Int32} {K' : Int} (ha : 0 ≤ a.toInt) (ha5 : a.toInt ≤ 5) (q : sd_M h s n (6 * a.toInt)) (hn : n.toInt ≤ n'.toInt) (hK : K' ≤ 7 * a.toInt + 1) : sd_M h s n' K' := by
  refine sd_Mle q hn (fun c hc e => ?_)
  have A : ∀ b : Nat, b < 6 → ∀ c ∈ sd_CL, c < 7 * b + 1 → c < 6 * b := by decide
  have e1 := sf_cl ha
  have := A a.toNatClampNeg (by omega) c hc (by omega)
  omega
theorem sd_M1 {h : mx_H} {s n n' : Int32} {K K' : Int} (q : sd_M h s n K) (hn : n'.toInt = n.toInt + 1) (h0 : 0 ≤ K) (hK : K' ≤ K + 1) : sd_M h s n' K' := by
  unfold sd_M at *
  have := sd_C_add1 (l := sd_CL) (c := K.toNat) (g := fun c => decide ((c : Int) < K) && sd_P h s.toNatClampNeg 1000 c) (g' := fun c => decide ((c : Int) < K') && sd_P h s.toNatClampNeg 1000 c) sd_CLn (fun c hc e1 e => by
    simp only [Bool.and_eq_true, decide_eq_true_eq] at *
    exact ⟨by omega, e.2⟩)
  omega
theorem sd_M2 {h : mx_H} {s n n' x : Int32} {K K' : Int} (q : sd_M h s n K) (hn : n.toInt ≤ n'.toInt) (hK : K' ≤ K + 1) (h0 : 0 ≤ K) (hs : 0 ≤ s.toInt) (hx : x.toInt = 36 * s.toInt + K) (hv : (h.2.1 (.inl 113) x.toNatClampNeg).toInt ≤ 0) : sd_M h s n' K' := by
  unfold sd_M at *
  have e1 := sf_cl hs
  have e2 := sf_cl (x := x) (by omega)
  have := sd_C_mono (l := sd_CL) (g := fun c => decide ((c : Int) < K') && sd_P h s.toNatClampNeg 1000 c) (g' := fun c => decide ((c : Int) < K) && sd_P h s.toNatClampNeg 1000 c) (fun c hc e => by
    simp only [Bool.and_eq_true, decide_eq_true_eq] at *
    refine ⟨?_, e.2⟩
    by_cases c2 : (c : Int) = K
    · exfalso
      have e3 := e.2
      unfold sd_P at e3
      simp only [Bool.and_eq_true, decide_eq_true_eq] at e3
      rw [show 36 * s.toNatClampNeg + c = x.toNatClampNeg by omega] at e3
      omega
    · omega)
  omega
theorem sd_Mf {h : mx_H} {s n : Int32} {K : Int} (q : sd_M h s n K) (hK : 30 ≤ K) : ((sd_C sd_CL (sd_P h s.toNatClampNeg 1000) : Nat) : Int) ≤ n.toInt := by
  unfold sd_M at q
  have := sd_C_mono (l := sd_CL) (g := sd_P h s.toNatClampNeg 1000) (g' := fun c => decide ((c : Int) < K) && sd_P h s.toNatClampNeg 1000 c) (fun c hc e => by
    simp only [Bool.and_eq_true, decide_eq_true_eq]
    have A : ∀ y ∈ sd_CL, y < 30 := by decide
    have := A c hc
    exact ⟨by omega, e⟩)
  omega
theorem sd_Ne {m : Nat} {h h' : mx_H} {S : Nat} {K : Int} (hE : sf_E m h h') (h1 : m.testBit 325 = false) (q : ((sd_C sd_CL (sd_P h S 1000) : Nat) : Int) ≤ K) : ((sd_C sd_CL (sd_P h' S 1000) : Nat) : Int) ≤ K := by
  have e : sd_P h' S 1000 = sd_P h S 1000 := by
    funext c
    unfold sd_P
    rw [hE.1 (.inl 113) _ h1]
  rw [e]
  exact q
def sd_H (h : mx_H) (s : Int32) (K : Int) : Prop := ∀ c : Nat, (c : Int) < K → 1 ≤ (h.2.1 (.inl 107) (6 * s.toNatClampNeg + c)).toInt
theorem sd_Hu {h : mx_H} {s : Int32} {K : Int} {a : mx_A} {i r : Nat} {v : Int32} (e : sf_rg a i = r) (hr : (r != 319) = true) (q : sd_H h s K) : sd_H (mx_uI h a i v) s K := by
  subst e
  rw [bne_iff_ne] at hr
  intro c hc
  rw [show (mx_uI h a i v).2.1 (.inl 107) (6 * s.toNatClampNeg + c) = h.2.1 (.inl 107) (6 * s.toNatClampNeg + c) from if_neg (fun c => hr (by rw [← c.1]; rfl))]
  exact q c hc
theorem sd_Hs {h : mx_H} {s x v : Int32} {K K' : Int} (q : sd_H h s K) (hs : 0 ≤ s.toInt) (h0 : 0 ≤ K) (hx : x.toInt = 6 * s.toInt + K) (hv : 1 ≤ v.toInt) (hK : K' ≤ K + 1) : sd_H (mx_uI h (.inl 107) x.toNatClampNeg v) s K' := by
  intro c hc
  have e1 := sf_cl hs
  have e2 := sf_cl (x := x) (by omega)
  by_cases e : 6 * s.toNatClampNeg + c = x.toNatClampNeg
  · rw [e, sf_rs]
    exact hv
  · rw [sf_roi e]
    exact q c (by omega)
theorem sd_Hc {h : mx_H} {s : Int32} {K K' : Int} (q : sd_H h s K) (hK : K' ≤ K) : sd_H h s K' := fun c hc => q c (by omega)
