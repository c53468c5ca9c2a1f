/-! ===== class: the draft is no shape; what stays of the others ===== -/
theorem ne_jj {j j' o : Nat} (h : ¬ j = j') : ¬ (Sum.inr (j, o) : mx_A) = .inr (j', o) := fun q => h (sf_ir q).1
theorem sf_dr2 {x y : Option mx_A} {j0 j : Nat} (e : y = x) (q0 : x = some (.inr (j0, 0))) (q : y = some (.inr (j, 0))) : j0 = j := by
  rw [e, q0] at q
  injection q with q
  exact (sf_ir q).1
theorem sf_j4n {h : mx_H} {i sj dj : Nat} (hI : sf_I h) (q1 : h.2.2.2 (.inl 3) i = some (.inr (sj, 0))) (q2 : h.2.2.2 (.inl 0) 3 = some (.inr (dj, 0))) : ¬ sj = dj := by
  obtain ⟨m, h1, -, -, h4⟩ := hI.2.2.1.2.2.2
  have := h4 i sj q1
  have := sf_dr2 rfl h1 q2
  omega
/-- the corners of all shapes but one stay -/
def sf_Fr (h0 h : mx_H) (t : Nat) : Prop := ∀ j, ¬ j = t → h.2.1 (.inr (j, 0)) 0 = h0.2.1 (.inr (j, 0)) 0
theorem sf_Fr0 (h : mx_H) (t : Nat) : sf_Fr h h t := fun _ _ => rfl
theorem sf_Fru {h0 h : mx_H} {t : Nat} {a : mx_A} {i r : Nat} {v : Int32} (e : sf_rg a i = r) (hr : (r != 379) = true) (q : sf_Fr h0 h t) : sf_Fr h0 (mx_uI h a i v) t := by
  subst e
  rw [bne_iff_ne] at hr
  intro j hj
  exact (if_neg (fun c => hr (by rw [← c.1, ← c.2]; rfl))).trans (q j hj)
theorem sf_Frt {h0 h : mx_H} {t i : Nat} {v : Int32} (q : sf_Fr h0 h t) : sf_Fr h0 (mx_uI h (.inr (t, 0)) i v) t := fun j hj => (sf_ro (ne_jj hj)).trans (q j hj)
theorem sf_Fre {m : Nat} {h0 h h' : mx_H} {t : Nat} (hE : sf_E m h h') (h1 : m.testBit 379 = false) (q : sf_Fr h0 h t) : sf_Fr h0 h' t := fun j hj => (hE.1 (.inr (j, 0)) 0 h1).trans (q j hj)
theorem sf_Cai {h0 h : mx_H} {t s : Nat} {b : Int32} (hb : h0.2.1 (.inr (t, 0)) 0 = b) (q : sf_Fr h0 h t) (hn : ¬ s = t) (e : (h.2.1 (.inr (t, 0)) 0).toInt = b.toInt + (h.2.1 (.inr (s, 0)) 0).toInt) : (h.2.1 (.inr (t, 0)) 0).toInt = (h0.2.1 (.inr (t, 0)) 0).toInt + (h0.2.1 (.inr (s, 0)) 0).toInt := by
  rw [q s hn] at e
  rw [hb]
  exact e
/-- pieces lie between corners -/
theorem sf_j1x {h : mx_H} {j : Nat} {k : Int32} (hI : sf_I h) (h0 : 0 ≤ k.toInt) (hk : k.toInt < (h.2.1 (.inr (j, 0)) 6).toInt) : (h.2.1 (.inr (j, 5)) k.toNatClampNeg).toInt < (h.2.1 (.inr (j, 0)) 0).toInt ∧ (h.2.1 (.inr (j, 6)) k.toNatClampNeg).toInt < (h.2.1 (.inr (j, 0)) 0).toInt := by
  have q := hI.2.2.1.1 j k.toNatClampNeg (by rw [sf_jfr (r := 385) rfl rfl, sf_cl h0]; exact hk)
  rw [sf_jfr (a := .inr (j, 0)) (r := 379) rfl rfl, sf_jfr (a := .inr (j, 5)) (r := 396) rfl rfl, sf_jfr (a := .inr (j, 6)) (r := 397) rfl rfl] at q
  exact q
