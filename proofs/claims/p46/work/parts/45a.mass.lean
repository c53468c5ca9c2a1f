/-! ===== reference: masses are at least 1 behind take ===== -/
def sf_Qm (h : mx_H) : Prop := ∀ i : Nat, (i : Int) < (h.2.1 (.inl 105) 35).toInt → 1 ≤ (h.2.1 (.inl 128) i).toInt
def sf_Qp (h : mx_H) (K : Int) : Prop := ∀ i : Nat, (i : Int) < K → 1 ≤ (h.2.1 (.inl 128) i).toInt
theorem sf_Qmu {h : mx_H} {a : mx_A} {i r : Nat} {v : Int32} (e : sf_rg a i = r) (hr : (r != 340 && r != 259) = true) (q : sf_Qm h) : sf_Qm (mx_uI h a i v) := by
  subst e
  simp only [Bool.and_eq_true, bne_iff_ne] at hr
  intro k hk
  rw [show (mx_uI h a i v).2.1 (.inl 105) 35 = h.2.1 (.inl 105) 35 from if_neg (fun c => hr.2 (by rw [← c.1, ← c.2]; rfl))] at hk
  rw [show (mx_uI h a i v).2.1 (.inl 128) k = h.2.1 (.inl 128) k from if_neg (fun c => hr.1 (by rw [← c.1]; rfl))]
  exact q k hk
theorem sf_Qme {m : Nat} {h h' : mx_H} (hE : sf_E m h h') (h1 : m.testBit 340 = false) (h2 : m.testBit 259 = false) (q : sf_Qm h) : sf_Qm h' := by
  intro k hk
  rw [hE.1 (.inl 105) 35 h2] at hk
  rw [hE.1 (.inl 128) k h1]
  exact q k hk
theorem sf_Qpu {h : mx_H} {a : mx_A} {i r : Nat} {v : Int32} {K : Int} (e : sf_rg a i = r) (hr : (r != 340) = true) (q : sf_Qp h K) : sf_Qp (mx_uI h a i v) K := by
  subst e
  rw [bne_iff_ne] at hr
  intro k hk
  rw [show (mx_uI h a i v).2.1 (.inl 128) k = h.2.1 (.inl 128) k from if_neg (fun c => hr (by rw [← c.1]; rfl))]
  exact q k hk
theorem sf_Qpe {m : Nat} {h h' : mx_H} {K : Int} (hE : sf_E m h h') (h1 : m.testBit 340 = false) (q : sf_Qp h K) : sf_Qp h' K := by
  intro k hk
  rw [hE.1 (.inl 128) k h1]
  exact q k hk
theorem sf_Qp0 {h : mx_H} {K : Int} (hK : K ≤ 0) : sf_Qp h K := fun i hi => by omega
theorem sf_Qps {h : mx_H} {K : Int} {x v : Int32} (q : sf_Qp h K) (h0 : 0 ≤ x.toInt) (hx : x.toInt = K) (hv : 1 ≤ v.toInt) : sf_Qp (mx_uI h (.inl 128) x.toNatClampNeg v) (K + 1) := by
  intro i hi
  by_cases e : i = x.toNatClampNeg
  · subst e
    rw [sf_rs]
    exact hv
  · rw [sf_roi e]
    have := sf_cl h0
    exact q i (by omega)
theorem sf_Qpc {h : mx_H} {K K' : Int} (q : sf_Qp h K) (hK : K' ≤ K) : sf_Qp h K' := fun i hi => q i (by omega)
theorem sf_Qpm {h : mx_H} {K : Int} (q : sf_Qp h K) (hK : (h.2.1 (.inl 105) 35).toInt ≤ K) : sf_Qm h := fun i hi => q i (by omega)
theorem sf_Qmx {h : mx_H} {x : Int32} (q : sf_Qm h) (h0 : 0 ≤ x.toInt) (hx : x.toInt < (h.2.1 (.inl 105) 35).toInt) : sf_iv 1 2147483647 (h.2.1 (.inl 128) x.toNatClampNeg) := by
  have := q x.toNatClampNeg (by rw [sf_cl h0]; exact hx)
  exact ⟨this, (iv_rng _).2⟩
theorem sf_Stp {x y z : Int32} (e : y = z) (q : x.toInt = y.toInt + 1) : x.toInt = z.toInt + 1 := by
  rw [← e]
  exact q
