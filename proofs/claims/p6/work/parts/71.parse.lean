/-! ===== the text is read alike: tokens ===== -/
/-- a byte of the class and of the reference -/
def rz_b (c r : Int) : Prop := 0 ≤ c ∧ c ≤ 255 ∧ r = if c ≤ 127 then c else c - 256
def rz_T (hc hr : mx_H) (L p : Nat) : Prop := L ≤ 120 ∧ p ≤ L ∧ rD hc (.inl 1) 1 = L ∧ rD hc (.inl 1) 2 = p ∧ rD hr (.inl 105) 16 = L ∧ rD hr (.inl 105) 17 = p ∧ ∀ i, i < L → rz_b (rD hc (.inl 2) i) (rD hr (.inl 118) i)
/-- one sign further -/
def rz_c (h : mx_H) : mx_H := mx_uI h (.inl 1) 2 (h.2.1 (.inl 1) 2 + 1)
def rz_r (h : mx_H) : mx_H := mx_uI h (.inl 105) 17 (h.2.1 (.inl 105) 17 + 1)
section RZ
variable {hc hr : mx_H} {L p S C n : Nat}
theorem rz_tok (t : rz_T hc hr L p) : ∃ c : Int, (f92 hc).toInt = c ∧ (f185 hr).toInt = (if c ≤ 127 then c else c - 256) ∧ -1 ≤ c ∧ c ≤ 255 ∧ (c = -1 ↔ p = L) := by
  obtain ⟨l, pl, t1, t2, t3, t4, tb⟩ := t
  rw [f92_eq, f185_eq]
  by_cases e : p = L
  · refine ⟨-1, ?_, ?_, by decide, by decide, by simp [e]⟩
    · rw [if_pos (i_le t1 t2 (by omega))]
      rfl
    · rw [if_pos (i_le t3 t4 (by omega))]
      rfl
  · obtain ⟨b1, b2, b3⟩ := tb p (by omega)
    refine ⟨rD hc (.inl 2) p, ?_, ?_, by omega, by omega, by omega⟩
    · rw [if_neg (i_nle t1 t2 (by omega)), if_neg (i_nle k_120 t2 (by omega)), i_cl t2]
    · rw [if_neg (i_nle t3 t4 (by omega)), i_cl t4]
      exact b3
theorem rz_adv (t : rz_T hc hr L p) (h : p < L) : rz_T (rz_c hc) (rz_r hr) L (p + 1) := by
  obtain ⟨l, pl, t1, t2, t3, t4, tb⟩ := t
  refine ⟨l, h, t1, ?_, t3, ?_, tb⟩
  · show (hc.2.1 (.inl 1) 2 + 1).toInt = _
    rw [i_add t2 k_1 (by omega) (by omega)]
    omega
  · show (hr.2.1 (.inl 105) 17 + 1).toInt = _
    rw [i_add t4 k_1 (by omega) (by omega)]
    omega
/-- a digit: both see it, or none -/
theorem rz_dig (t : rz_T hc hr L p) : (∃ d : Int, 1 ≤ d ∧ d ≤ 9 ∧ p < L ∧ (f93 hc).toInt = d ∧ f188 hr = (f93 hc, rz_r hr) ∧ ¬ f187 hr = 0) ∨ (f93 hc = 0 ∧ f187 hr = 0 ∧ f188 hr = (0, f186 hr)) := by
  obtain ⟨c, e1, e2, c1, c2, c3⟩ := rz_tok t
  by_cases q : 49 ≤ c ∧ c ≤ 57
  · have q1 : (f93 hc).toInt = c - 48 := by
      rw [f93_eq]
      show (if f157 (f92 hc) 49 57 = 0 then (0 : Int32) else f92 hc - 48).toInt = _
      rw [w157_1 e1 k_49 k_57 q, if_neg n10]
      exact i_sub e1 k_48 (by omega) (by omega)
    have e2' : (f185 hr).toInt = c := by rw [e2, if_pos (by omega)]
    have q2 : f187 hr = 1 := by rw [f187_eq, w173_1 e2' k_49 k_57 q]
    have q3 : f185 hr - 48 = f93 hc := i_eq (i_sub e2' k_48 (by omega) (by omega)) q1 rfl
    have pl := t.2.1
    refine Or.inl ⟨c - 48, by omega, by omega, by omega, q1, ?_, by rw [q2]; exact n10⟩
    rw [f188_eq, if_pos (by rw [q2]; exact n10), q3]
    rfl
  · have q1 : f93 hc = 0 := by
      rw [f93_eq]
      show (if f157 (f92 hc) 49 57 = 0 then (0 : Int32) else f92 hc - 48) = _
      rw [w157_0 e1 k_49 k_57 q, if_pos rfl]
    have q2 : f187 hr = 0 := by
      rw [f187_eq]
      refine w173_0 e2 k_49 k_57 ?_
      split <;> omega
    refine Or.inr ⟨q1, q2, ?_⟩
    rw [f188_eq, if_neg (by rw [q2]; exact fun q => q rfl)]
    rfl
/-- a corner's letter: both see it, or none -/
theorem rz_let (t : rz_T hc hr L p) (C6 : C ≤ 6) (S12 : S ≤ 12) (hC : rD hc (.inr (S, 0)) 0 = C) (hR : rD hr (.inl 106) S = C) (hS : rD hr (.inl 105) 1 = S) : (∃ x : Int32, ∃ k : Nat, k < C ∧ p < L ∧ x.toInt = k ∧ f94 S hc = x ∧ f189 hr = x) ∨ (f94 S hc = -1 ∧ f189 hr = -1) := by
  obtain ⟨c, e1, e2, c1, c2, c3⟩ := rz_tok t
  have pl := t.2.1
  have h1 : (f92 hc - 97).toInt = c - 97 := i_sub e1 k_97 (by omega) (by omega)
  have h2 : (hc.2.1 (.inr (S, 0)) 0 - 1).toInt = (C : Int) - 1 := i_sub hC k_1 (by omega) (by omega)
  have h3 : (hr.2.1 (.inl 106) S - 1).toInt = (C : Int) - 1 := i_sub hR k_1 (by omega) (by omega)
  have A : f94 S hc = if f157 (f92 hc - 97) 0 (hc.2.1 (.inr (S, 0)) 0 - 1) = 0 then -1 else f92 hc - 97 := by rw [f94_eq]; rfl
  have B : f189 hr = if f173 (f185 hr - 97) 0 (hr.2.1 (.inl 106) S - 1) = 0 then -1 else f185 hr - 97 := by
    rw [f189_eq]
    show (if f178 (hr.2.1 (.inl 105) 1) (f185 hr - 97) hr = 0 then (-1 : Int32) else f185 hr - 97) = _
    rw [f178_eq, i_cl hS]
  by_cases q : 0 ≤ c - 97 ∧ c - 97 ≤ (C : Int) - 1
  · have e2' : (f185 hr).toInt = c := by rw [e2, if_pos (by omega)]
    have h4 : (f185 hr - 97).toInt = c - 97 := i_sub e2' k_97 (by omega) (by omega)
    refine Or.inl ⟨f92 hc - 97, (c - 97).toNat, by omega, by omega, by omega, ?_, ?_⟩
    · rw [A, w157_1 h1 k_0 h2 q, if_neg n10]
    · rw [B, w173_1 h4 k_0 h3 q, if_neg n10]
      exact i_eq h4 h1 rfl
  · refine Or.inr ⟨?_, ?_⟩
    · rw [A, w157_0 h1 k_0 h2 q, if_pos rfl]
    · by_cases c4 : c ≤ 127
      · have e2' : (f185 hr).toInt = c := by rw [e2, if_pos c4]
        rw [B, w173_0 (i_sub e2' k_97 (by omega) (by omega)) k_0 h3 q, if_pos rfl]
      · have e2' : (f185 hr).toInt = c - 256 := by rw [e2, if_neg c4]
        rw [B, w173_0 (i_sub e2' k_97 (by omega) (by omega)) k_0 h3 (by omega), if_pos rfl]
/-- a sign is named alike -/
theorem rz_is (t : rz_T hc hr L p) {x : Int32} {z : Int} (hx : x.toInt = z) (z0 : 0 ≤ z) (z1 : z ≤ 127) : (f92 hc = x ∧ f185 hr = x ∧ p < L) ∨ (¬ f92 hc = x ∧ ¬ f185 hr = x) := by
  obtain ⟨c, e1, e2, c1, c2, c3⟩ := rz_tok t
  have pl := t.2.1
  by_cases q : c = z
  · exact Or.inl ⟨i_eq e1 hx q, i_eq e2 hx (by rw [if_pos (by omega)]; exact q), by omega⟩
  · refine Or.inr ⟨i_ne e1 hx q, i_ne e2 hx ?_⟩
    split <;> omega
end RZ
/-! ===== what a text has told so far, on both sides ===== -/
/-- piece k of what is read: from a to b -/
def rz_k (hc hr : mx_H) (S C k a b : Nat) : Prop := a < C ∧ b < C ∧ a ≠ b ∧ rD hr (.inl 119) k = a ∧ rD hr (.inl 120) k = b ∧ rD hc (.inr (S, 5)) k = (min a b : Nat) ∧ rD hc (.inr (S, 6)) k = (max a b : Nat) ∧
  hr.2.1 (.inl 113) (36 * S + 6 * a + b) = 1 ∧ hr.2.1 (.inl 113) (36 * S + 6 * b + a) = 1 ∧ hr.2.1 (.inl 111) (36 * S + 6 * a + b) = hc.2.1 (.inr (S, 7)) k ∧ hr.2.1 (.inl 111) (36 * S + 6 * b + a) = hc.2.1 (.inr (S, 7)) k ∧
  hr.2.1 (.inl 112) (36 * S + 6 * a + b) = 0 ∧ hr.2.1 (.inl 112) (36 * S + 6 * b + a) = 0 ∧ hc.2.1 (.inr (S, 8)) k = 0
def rz_g (hr : mx_H) (S : Nat) (c : Nat) : Bool := decide (hr.2.1 (.inl 113) (36 * S + c) ≠ 0)
def rz_P (hc hr : mx_H) (S C n : Nat) : Prop := (∀ k, k < n → ∃ a b : Nat, rz_k hc hr S C k a b) ∧ (∀ a b, a < 6 → b < 6 → hr.2.1 (.inl 113) (36 * S + 6 * a + b) = 0 ∨ ∃ k, k < n ∧ (rz_k hc hr S C k a b ∨ rz_k hc hr S C k b a)) ∧ n = sd_C sd_CL (rz_g hr S) ∧ ∀ k k' u v, k < n → k' < n → k ≠ k' → rz_k hc hr S C k u v → ¬ rz_k hc hr S C k' u v ∧ ¬ rz_k hc hr S C k' v u
def rz_C (hc hr : mx_H) (S C n : Nat) : Prop := C ≤ 6 ∧ rD hc (.inr (S, 0)) 0 = C ∧ rD hr (.inl 106) S = C ∧ rD hc (.inr (S, 0)) 6 = n ∧ rD hr (.inl 105) 19 = n ∧
  (∀ c, c < C → hc.2.1 (.inr (S, 1)) c = hr.2.1 (.inl 107) (6 * S + c)) ∧
  (∀ c, c < 6 → hc.2.1 (.inr (S, 2)) c = hr.2.1 (.inl 108) (6 * S + c) ∧ hc.2.1 (.inr (S, 3)) c = hr.2.1 (.inl 109) (6 * S + c) ∧ hc.2.1 (.inr (S, 4)) c = hr.2.1 (.inl 110) (6 * S + c) ∧ (hr.2.1 (.inl 121) c = 0 ↔ hc.2.1 (.inr (S, 2)) c = 0) ∧ (hr.2.1 (.inl 122) c = 0 ↔ hc.2.1 (.inr (S, 3)) c = 0)) ∧
  rz_P hc hr S C n
/-- the class changed no more than the draft and where it reads -/
def rz_FC (S : Nat) (h h' : mx_H) : Prop := h'.1 = h.1 ∧ h'.2.2 = h.2.2 ∧ (∀ k i, ¬ (k = 1 ∧ i = 2) → h'.2.1 (.inl k) i = h.2.1 (.inl k) i) ∧ ∀ s o i, ¬ (s = S ∧ o < 9 ∧ (o = 0 → i = 0 ∨ i = 6)) → h'.2.1 (.inr (s, o)) i = h.2.1 (.inr (s, o)) i
/-- the same, with all of the draft -/
def rz_FW (S : Nat) (h h' : mx_H) : Prop := h'.1 = h.1 ∧ h'.2.2 = h.2.2 ∧ (∀ k i, ¬ (k = 1 ∧ i = 2) → h'.2.1 (.inl k) i = h.2.1 (.inl k) i) ∧ ∀ s o i, ¬ (s = S ∧ o < 9) → h'.2.1 (.inr (s, o)) i = h.2.1 (.inr (s, o)) i
/-- the reference no more than its draft's places -/
def rz_w (S k i : Nat) : Prop := (k = 105 ∧ (i = 17 ∨ i = 18 ∨ i = 19)) ∨ (k = 106 ∧ i = S) ∨ ((k = 107 ∨ k = 108 ∨ k = 109 ∨ k = 110) ∧ 6 * S ≤ i ∧ i < 6 * S + 6) ∨ ((k = 111 ∨ k = 112 ∨ k = 113) ∧ 36 * S ≤ i ∧ i < 36 * S + 36) ∨ k = 119 ∨ k = 120 ∨ k = 121 ∨ k = 122
def rz_FR (S : Nat) (h h' : mx_H) : Prop := h'.1 = h.1 ∧ h'.2.2 = h.2.2 ∧ (∀ q i, h'.2.1 (.inr q) i = h.2.1 (.inr q) i) ∧ ∀ k i, ¬ rz_w S k i → h'.2.1 (.inl k) i = h.2.1 (.inl k) i
theorem rz_FC.refl {S : Nat} {h : mx_H} : rz_FC S h h := ⟨rfl, rfl, fun _ _ _ => rfl, fun _ _ _ _ => rfl⟩
theorem rz_FC.trans {S : Nat} {h h' h'' : mx_H} (a : rz_FC S h h') (b : rz_FC S h' h'') : rz_FC S h h'' := ⟨b.1.trans a.1, b.2.1.trans a.2.1, fun k i q => (b.2.2.1 k i q).trans (a.2.2.1 k i q), fun s o i q => (b.2.2.2 s o i q).trans (a.2.2.2 s o i q)⟩
theorem rz_FC.c {S : Nat} {h h' : mx_H} {v : Int32} (a : rz_FC S h h') : rz_FC S h (mx_uI h' (.inl 1) 2 v) := ⟨a.1, a.2.1, fun k i q => (if_neg (fun e => q ⟨Sum.inl.inj e.1, e.2⟩)).trans (a.2.2.1 k i q), fun s o i q => a.2.2.2 s o i q⟩
theorem rz_FC.s {S o i : Nat} {h h' : mx_H} {v : Int32} (ho : o < 9) (a : rz_FC S h h') (hi : o = 0 → i = 0 ∨ i = 6 := by intro _; omega) : rz_FC S h (mx_uI h' (.inr (S, o)) i v) := ⟨a.1, a.2.1, fun k j q => a.2.2.1 k j q, fun s o' j q => (if_neg (fun e => by
  obtain ⟨e1, e2⟩ := e
  cases e1
  subst e2
  exact q ⟨rfl, ho, hi⟩)).trans (a.2.2.2 s o' j q)⟩
theorem rz_FW.refl {S : Nat} {h : mx_H} : rz_FW S h h := ⟨rfl, rfl, fun _ _ _ => rfl, fun _ _ _ _ => rfl⟩
theorem rz_FW.trans {S : Nat} {h h' h'' : mx_H} (a : rz_FW S h h') (b : rz_FW S h' h'') : rz_FW S h h'' := ⟨b.1.trans a.1, b.2.1.trans a.2.1, fun k i q => (b.2.2.1 k i q).trans (a.2.2.1 k i q), fun s o i q => (b.2.2.2 s o i q).trans (a.2.2.2 s o i q)⟩
theorem rz_FW.c {S : Nat} {h h' : mx_H} {v : Int32} (a : rz_FW S h h') : rz_FW S h (mx_uI h' (.inl 1) 2 v) := ⟨a.1, a.2.1, fun k i q => (if_neg (fun e => q ⟨Sum.inl.inj e.1, e.2⟩)).trans (a.2.2.1 k i q), fun s o i q => a.2.2.2 s o i q⟩
theorem rz_FW.s {S o i : Nat} {h h' : mx_H} {v : Int32} (ho : o < 9) (a : rz_FW S h h') : rz_FW S h (mx_uI h' (.inr (S, o)) i v) := ⟨a.1, a.2.1, fun k j q => a.2.2.1 k j q, fun s o' j q => (if_neg (fun e => by
  obtain ⟨e1, -⟩ := e
  cases e1
  exact q ⟨rfl, ho⟩)).trans (a.2.2.2 s o' j q)⟩
theorem rz_FC.w {S : Nat} {h h' : mx_H} (a : rz_FC S h h') : rz_FW S h h' := ⟨a.1, a.2.1, a.2.2.1, fun s o i q => a.2.2.2 s o i (fun e => q ⟨e.1, e.2.1⟩)⟩
theorem rz_FR.refl {S : Nat} {h : mx_H} : rz_FR S h h := ⟨rfl, rfl, fun _ _ => rfl, fun _ _ _ => rfl⟩
theorem rz_FR.trans {S : Nat} {h h' h'' : mx_H} (a : rz_FR S h h') (b : rz_FR S h' h'') : rz_FR S h h'' := ⟨b.1.trans a.1, b.2.1.trans a.2.1, fun q i => (b.2.2.1 q i).trans (a.2.2.1 q i), fun k i q => (b.2.2.2 k i q).trans (a.2.2.2 k i q)⟩
theorem rz_FR.u {S k i : Nat} {h h' : mx_H} {v : Int32} (hw : rz_w S k i) (a : rz_FR S h h') : rz_FR S h (mx_uI h' (.inl k) i v) := ⟨a.1, a.2.1, fun q j => a.2.2.1 q j, fun k' j q => (if_neg (fun e => by
  obtain ⟨e1, e2⟩ := e
  cases e1
  subst e2
  exact q hw)).trans (a.2.2.2 k' j q)⟩
