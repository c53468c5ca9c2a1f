/-! ===== a call on a new object: helpers ===== -/
theorem hx_i {a : Int32} {P : Int32 → Prop} (h : P a) : ∀ x, (some (.inl (.int a)) : Option mx_V) = some (.inl (.int x)) → P x := by
  intro x hx
  cases hx
  exact h
theorem hx_l {a : Int64} {P : Int64 → Prop} (h : P a) : ∀ x, (some (.inl (.long a)) : Option mx_V) = some (.inl (.long x)) → P x := by
  intro x hx
  cases hx
  exact h
theorem hx_n {P : Prop} (h : P) : (none : Option mx_V) = none → P := fun _ => h
theorem hx_0 {A : Nat → Prop} {B : Prop} {C : mx_A → Prop} (h : B) : (∀ j, (some (.inl .null) : Option mx_V) = some (.inr (.inr (j, 0))) → A j) ∧ ((some (.inl .null) : Option mx_V) = some (.inl .null) → B) ∧ (∀ b, (some (.inl .null) : Option mx_V) = some (.inr b) → C b) :=
  ⟨fun j hj => (by cases hj), fun _ => h, fun b hb => (by cases hb)⟩
theorem cl6 {a : Int32} (h : 0 ≤ a ∧ a ≤ 5) : a.toNatClampNeg < 6 := by
  have h1 : (0 : Int32).toInt ≤ a.toInt := Int32.le_iff_toInt_le.mp h.1
  have h2 : a.toInt ≤ (5 : Int32).toInt := Int32.le_iff_toInt_le.mp h.2
  have e0 : (0 : Int32).toInt = 0 := rfl
  have e5 : (5 : Int32).toInt = 5 := rfl
  show a.toInt.toNat < 6
  omega
theorem cl4 {a : Int32} (h : 0 ≤ a ∧ a ≤ 3) : a.toNatClampNeg < 4 := by
  have h1 : (0 : Int32).toInt ≤ a.toInt := Int32.le_iff_toInt_le.mp h.1
  have h2 : a.toInt ≤ (3 : Int32).toInt := Int32.le_iff_toInt_le.mp h.2
  have e0 : (0 : Int32).toInt = 0 := rfl
  have e5 : (3 : Int32).toInt = 3 := rfl
  show a.toInt.toNat < 4
  omega
theorem vi6 {a : Int32} (h : 0 ≤ a ∧ a ≤ 5) : vp_in a 6 := sp_vin h.1 (cl6 h)
theorem vi4 {a : Int32} (h : 0 ≤ a ∧ a ≤ 3) : vp_in a 4 := sp_vin h.1 (cl4 h)
/-- a cell of the class's -/
def sp_cl : mx_A → Bool
  | .inl k => Nat.blt k 105
  | .inr _ => true
theorem sp_cl_ne {a : mx_A} {k : Nat} (ha : sp_cl a = true) (hk : 105 ≤ k) : (.inl k : mx_A) ≠ a := by
  rintro rfl
  have := Nat.blt_eq.mp ha
  omega
theorem sp_up_ne {α : Type} {f : mx_A → Nat → α} {a b : mx_A} {i j : Nat} {v : α} (h : b ≠ a) : mx_up f a i v b j = f b j := if_neg (fun q => h q.1)
theorem sp_FM_ext {h h' : mx_H} (e : ∀ k j, 105 ≤ k → h'.2.1 (.inl k) j = h.2.1 (.inl k) j) (hM : sp_FM h) : sp_FM h' := by
  unfold sp_FM at *
  simp only [e 105 _ (by decide), e 149 _ (by decide), e 150 _ (by decide), e 163 _ (by decide)]
  exact hM
theorem sp_FM_uI {h : mx_H} {a : mx_A} {i : Nat} {v : Int32} (ha : sp_cl a = true) (hM : sp_FM h) : sp_FM (mx_uI h a i v) := sp_FM_ext (fun _ _ hk => sp_up_ne (sp_cl_ne ha hk)) hM
theorem sp_FM_uL {h : mx_H} {a : mx_A} {i : Nat} {v : Int64} (hM : sp_FM h) : sp_FM (mx_uL h a i v) := hM
theorem sp_FM_uR {h : mx_H} {a : mx_A} {i : Nat} {v : Option mx_A} (hM : sp_FM h) : sp_FM (mx_uR h a i v) := hM
theorem sp_e0 {a : Int32} : ¬ (0 ≤ a ∧ a ≤ (0 : Int32) - 1) := fun h => absurd (Int32.le_trans h.1 h.2) (by decide)
section FZ
variable {E : mx_Ev} {d : Nat} {h : mx_H} {Q : Option mx_V → mx_H → Prop}
theorem sp_wi {a0 a1 a2 : Int32} (h1 : (a1 ≤ a0 ∧ a0 ≤ a2) → Q (some (.inl (.int 1))) h) (h0 : ¬ (a1 ≤ a0 ∧ a0 ≤ a2) → Q (some (.inl (.int 0))) h) : mx_C E (mx_fn true) d 157 [.inl (.int a0), .inl (.int a1), .inl (.int a2)] h Q :=
  sg157_0 ⟨fun g1 => ⟨Or.inl rfl, h0 (fun q => absurd g1 (Int32.not_lt.mpr q.1))⟩, fun g1 => ⟨fun g2 => ⟨Or.inl rfl, h0 (fun q => absurd g2 (Int32.not_lt.mpr q.2))⟩, fun g2 => ⟨Or.inr rfl, h1 ⟨Int32.not_lt.mp g1, Int32.not_lt.mp g2⟩⟩⟩⟩
theorem sp_ini {a0 a1 a2 : Int32} (h1 : (a1 ≤ a0 ∧ a0 ≤ a2) → Q (some (.inl (.int 1))) h) (h0 : ¬ (a1 ≤ a0 ∧ a0 ≤ a2) → Q (some (.inl (.int 0))) h) : mx_C E (mx_fn true) d 173 [.inl (.int a0), .inl (.int a1), .inl (.int a2)] h Q :=
  sg173_0 ⟨fun g1 => ⟨Or.inl rfl, h0 (fun q => absurd g1 (Int32.not_lt.mpr q.1))⟩, fun g1 => ⟨fun g2 => ⟨Or.inl rfl, h0 (fun q => absurd g2 (Int32.not_lt.mpr q.2))⟩, fun g2 => ⟨Or.inr rfl, h1 ⟨Int32.not_lt.mp g1, Int32.not_lt.mp g2⟩⟩⟩⟩
theorem fz_shapeAt {a1 : Int32} (h0 : h.2.1 (.inl 0) 2 = 0) (hQ : Q (some (.inl .null)) h) : mx_C E (mx_fn true) (d + 1) 166 [.inr (.inl 0), .inl (.int a1)] h Q := by
  refine sg166_0 (sp_wi (fun g => ?_) (fun _ => ?_))
  · rw [h0] at g
    exact absurd g sp_e0
  · exact hx_i ⟨fun _ => hQ, fun g => absurd rfl g⟩
theorem fz_planned (h0 : h.2.1 (.inl 60) 1 = 0) (hQ : Q (some (.inl .null)) h) : mx_C E (mx_fn true) (d + 1) 167 [.inr (.inl 0)] h Q :=
  sg167_0 ⟨fun _ => hQ, fun g => absurd (by rw [h0]; decide) g⟩
theorem fz_isBody {a1 : Int32} (h0 : h.2.1 (.inl 90) 0 = 0) (hQ : Q (some (.inl (.int 0))) h) : mx_C E (mx_fn true) (d + 1) 163 [.inr (.inl 0), .inl (.int a1)] h Q := by
  refine sg163_0 (sp_wi (fun g => ?_) (fun _ => ?_))
  · rw [h0] at g
    exact absurd g sp_e0
  · exact hx_i ⟨Or.inl rfl, hQ⟩
theorem fz_isShape {a1 : Int32} (h0 : h.2.1 (.inl 105) 1 = 0) (hQ : Q (some (.inl (.int 0))) h) : mx_C E (mx_fn true) (d + 1) 177 [.inr (.inl 105), .inl (.int a1)] h Q := by
  refine sg177_0 (sp_ini (fun g => ?_) (fun _ => ?_))
  · rw [h0] at g
    exact absurd g sp_e0
  · exact hx_i ⟨Or.inl rfl, hQ⟩
theorem fz_isBodyM {a1 : Int32} (h0 : h.2.1 (.inl 105) 12 = 0) (hQ : Q (some (.inl (.int 0))) h) : mx_C E (mx_fn true) (d + 1) 283 [.inr (.inl 105), .inl (.int a1)] h Q := by
  refine sg283_0 (sp_ini (fun g => ?_) (fun _ => ?_))
  · rw [h0] at g
    exact absurd g sp_e0
  · exact hx_i ⟨Or.inl rfl, hQ⟩
theorem fz_was {a1 : Int32} (h0 : h.2.1 (.inl 71) 2 = 0) (hQ : Q (some (.inl (.int 0))) h) : mx_C E (mx_fn true) d 7 [.inr (.inl 71), .inl (.int a1)] h Q :=
  sg7_0 ⟨fun _ => ⟨Or.inl rfl, hQ⟩, fun g => absurd (by rw [h0]; decide) g⟩
/-- a predicate of the class by within -/
theorem fz_p {n : Nat} {a lo hi : Int32} {l : List mx_V} (sg : (mx_C E (mx_fn true) d 157 [.inl (.int a), .inl (.int lo), .inl (.int hi)] h (fun v1 h2 => ∀ x3, v1 = some (.inl (.int x3)) → (((x3 : Int32) = 0 ∨ (x3 : Int32) = 1) ∧ (Q (some (.inl (.int x3))) h2)))) → mx_C E (mx_fn true) (d + 1) n l h Q)
    (h1 : (lo ≤ a ∧ a ≤ hi) → Q (some (.inl (.int 1))) h) (h0 : ¬ (lo ≤ a ∧ a ≤ hi) → Q (some (.inl (.int 0))) h) : mx_C E (mx_fn true) (d + 1) n l h Q :=
  sg (sp_wi (fun g => hx_i ⟨Or.inr rfl, h1 g⟩) (fun g => hx_i ⟨Or.inl rfl, h0 g⟩))
theorem fz_q {n : Nat} {a lo hi : Int32} {l : List mx_V} (sg : (mx_C E (mx_fn true) d 173 [.inl (.int a), .inl (.int lo), .inl (.int hi)] h (fun v1 h2 => ∀ x3, v1 = some (.inl (.int x3)) → (((x3 : Int32) = 0 ∨ (x3 : Int32) = 1) ∧ (Q (some (.inl (.int x3))) h2)))) → mx_C E (mx_fn true) (d + 1) n l h Q)
    (h1 : (lo ≤ a ∧ a ≤ hi) → Q (some (.inl (.int 1))) h) (h0 : ¬ (lo ≤ a ∧ a ≤ hi) → Q (some (.inl (.int 0))) h) : mx_C E (mx_fn true) (d + 1) n l h Q :=
  sg (sp_ini (fun g => hx_i ⟨Or.inr rfl, h1 g⟩) (fun g => hx_i ⟨Or.inl rfl, h0 g⟩))
end FZ
