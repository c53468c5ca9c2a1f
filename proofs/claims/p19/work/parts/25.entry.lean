/-! ===== the law's first sixteen bytes ===== -/
set_option maxRecDepth 100000 in
theorem sgL_0 {E : mx_Ev} {Q : Option mx_V → mx_H → Prop}
    (H : ∃ x, mx_pos x = 0 ∧ mx_va x ∧ mx_lo x = (11, 14) ∧ (mx_C0 E (mx_fn false) 999 101 [.inr x] (mx_nw sp_he x) (fun v1 h2 => v1 = none → (∃ y, mx_pos y = h2.1 ∧ mx_va y ∧ mx_lo y = (12, 94) ∧ (mx_C0 E (mx_fn false) 999 172 [.inr y] (mx_nw h2 y) (fun v3 h4 => v3 = none → (mx_T0 E (mx_fn false) 1000 586 6306 0 18 [(0, .inl (.float 2)), (1, .inr x), (2, .inr y), (3, .inl (.int 0))] [] h4 Q))))))) :
    mx_T0 E (mx_fn false) 1000 753 22667 0 0 [(0, .inl (.float 2))] [] sp_he Q := mx_wp_sound0 (cuts := [(18, [0, 1, 2, 3])]) mx_ok0 30 H
theorem sp_entry {E : mx_Ev} {Q : Option mx_V → mx_H → Prop} (H : mx_T0 E (mx_fn true) 1000 586 6306 0 18 [(0, .inl (.float 2)), (1, .inr (.inl 0)), (2, .inr (.inl 105)), (3, .inl (.int 0))] [] sp_h0 Q) :
    mx_T0 E (mx_fn false) 1000 753 22667 0 0 [(0, .inl (.float 2))] [] sp_he Q := by
  refine sgL_0 ⟨.inl 0, rfl, Or.inl (by decide +kernel), rfl, ?_⟩
  refine mx_ex_sound 3000 sp_x1_s ?_
  intro _
  refine ⟨.inl 105, sp_h1_n.symm, Or.inr (Or.inr (Or.inr (by decide +kernel))), rfl, ?_⟩
  refine mx_ex_sound 3000 sp_x2_s ?_
  intro _
  exact mx_T0.enter sp_h0_fi H
/-! ===== a call on a new object: helpers ===== -/
theorem hx_i {a : Int32} {P : Int32 → Prop} (h : P a) : ∀ x, (some (.inl (.int a)) : Option mx_V) = some (.inl (.int x)) → P x := by
  intro x hx
  cases hx
  exact h
theorem hx_l {a : Int64} {P : Int64 → Prop} (h : P a) : ∀ x, (some (.inl (.long a)) : Option mx_V) = some (.inl (.long x)) → P x := by
  intro x hx
  cases hx
  exact h
theorem hx_n {P : Prop} (h : P) : (none : Option mx_V) = none → P := fun _ => h
theorem hx_0 {A : Nat → Prop} {B : Prop} {C : mx_A → Prop} (h : B) : (∀ j, (some (.inl .null) : Option mx_V) = some (.inr (.inr (j, 0))) → A j) ∧ ((some (.inl .null) : Option mx_V) = some (.inl .null) → B) ∧ (∀ b, (some (.inl .null) : Option mx_V) = some (.inr b) → C b) :=
  ⟨fun j hj => (by cases hj), fun _ => h, fun b hb => (by cases hb)⟩
theorem cl6 {a : Int32} (h : 0 ≤ a ∧ a ≤ 5) : a.toNatClampNeg < 6 := by
  have h1 : (0 : Int32).toInt ≤ a.toInt := Int32.le_iff_toInt_le.mp h.1
  have h2 : a.toInt ≤ (5 : Int32).toInt := Int32.le_iff_toInt_le.mp h.2
  have e0 : (0 : Int32).toInt = 0 := rfl
  have e5 : (5 : Int32).toInt = 5 := rfl
  show a.toInt.toNat < 6
  omega
theorem cl4 {a : Int32} (h : 0 ≤ a ∧ a ≤ 3) : a.toNatClampNeg < 4 := by
  have h1 : (0 : Int32).toInt ≤ a.toInt := Int32.le_iff_toInt_le.mp h.1
  have h2 : a.toInt ≤ (3 : Int32).toInt := Int32.le_iff_toInt_le.mp h.2
  have e0 : (0 : Int32).toInt = 0 := rfl
  have e5 : (3 : Int32).toInt = 3 := rfl
  show a.toInt.toNat < 4
  omega
theorem vi6 {a : Int32} (h : 0 ≤ a ∧ a ≤ 5) : vp_in a 6 := sp_vin h.1 (cl6 h)
theorem vi4 {a : Int32} (h : 0 ≤ a ∧ a ≤ 3) : vp_in a 4 := sp_vin h.1 (cl4 h)
/-- a cell of the class's -/
def sp_cl : mx_A → Bool
  | .inl k => Nat.blt k 105
  | .inr _ => true
theorem sp_cl_ne {a : mx_A} {k : Nat} (ha : sp_cl a = true) (hk : 105 ≤ k) : (.inl k : mx_A) ≠ a := by
  rintro rfl
  have := Nat.blt_eq.mp ha
  omega
theorem sp_up_ne {α : Type} {f : mx_A → Nat → α} {a b : mx_A} {i j : Nat} {v : α} (h : b ≠ a) : mx_up f a i v b j = f b j := if_neg (fun q => h q.1)
theorem sp_FM_ext {h h' : mx_H} (e : ∀ k j, 105 ≤ k → h'.2.1 (.inl k) j = h.2.1 (.inl k) j) (hM : sp_FM h) : sp_FM h' := by
  unfold sp_FM at *
  simp only [e 105 _ (by decide +kernel), e 149 _ (by decide +kernel), e 150 _ (by decide +kernel), e 163 _ (by decide +kernel)]
  exact hM
theorem sp_FM_uI {h : mx_H} {a : mx_A} {i : Nat} {v : Int32} (ha : sp_cl a = true) (hM : sp_FM h) : sp_FM (mx_uI h a i v) := sp_FM_ext (fun _ _ hk => sp_up_ne (sp_cl_ne ha hk)) hM
theorem sp_FM_uL {h : mx_H} {a : mx_A} {i : Nat} {v : Int64} (hM : sp_FM h) : sp_FM (mx_uL h a i v) := hM
theorem sp_FM_uR {h : mx_H} {a : mx_A} {i : Nat} {v : Option mx_A} (hM : sp_FM h) : sp_FM (mx_uR h a i v) := hM
theorem sp_e0 {a : Int32} : ¬ (0 ≤ a ∧ a ≤ (0 : Int32) - 1) := fun h => absurd (Int32.le_trans h.1 h.2) (by decide +kernel)
section FZ
variable {E : mx_Ev} {d : Nat} {h : mx_H} {Q : Option mx_V → mx_H → Prop}
theorem sp_wi {a0 a1 a2 : Int32} (h1 : (a1 ≤ a0 ∧ a0 ≤ a2) → Q (some (.inl (.int 1))) h) (h0 : ¬ (a1 ≤ a0 ∧ a0 ≤ a2) → Q (some (.inl (.int 0))) h) : mx_C E (mx_fn true) d 157 [.inl (.int a0), .inl (.int a1), .inl (.int a2)] h Q :=
  sg157_0 ⟨fun g1 => ⟨Or.inl rfl, h0 (fun q => absurd g1 (Int32.not_lt.mpr q.1))⟩, fun g1 => ⟨fun g2 => ⟨Or.inl rfl, h0 (fun q => absurd g2 (Int32.not_lt.mpr q.2))⟩, fun g2 => ⟨Or.inr rfl, h1 ⟨Int32.not_lt.mp g1, Int32.not_lt.mp g2⟩⟩⟩⟩
theorem sp_ini {a0 a1 a2 : Int32} (h1 : (a1 ≤ a0 ∧ a0 ≤ a2) → Q (some (.inl (.int 1))) h) (h0 : ¬ (a1 ≤ a0 ∧ a0 ≤ a2) → Q (some (.inl (.int 0))) h) : mx_C E (mx_fn true) d 173 [.inl (.int a0), .inl (.int a1), .inl (.int a2)] h Q :=
  sg173_0 ⟨fun g1 => ⟨Or.inl rfl, h0 (fun q => absurd g1 (Int32.not_lt.mpr q.1))⟩, fun g1 => ⟨fun g2 => ⟨Or.inl rfl, h0 (fun q => absurd g2 (Int32.not_lt.mpr q.2))⟩, fun g2 => ⟨Or.inr rfl, h1 ⟨Int32.not_lt.mp g1, Int32.not_lt.mp g2⟩⟩⟩⟩
theorem fz_shapeAt {a1 : Int32} (h0 : h.2.1 (.inl 0) 2 = 0) (hQ : Q (some (.inl .null)) h) : mx_C E (mx_fn true) (d + 1) 166 [.inr (.inl 0), .inl (.int a1)] h Q := by
  refine sg166_0 (sp_wi (fun g => ?_) (fun _ => ?_))
  · rw [h0] at g
    exact absurd g sp_e0
  · exact hx_i ⟨fun _ => hQ, fun g => absurd rfl g⟩
theorem fz_planned (h0 : h.2.1 (.inl 60) 1 = 0) (hQ : Q (some (.inl .null)) h) : mx_C E (mx_fn true) (d + 1) 167 [.inr (.inl 0)] h Q :=
  sg167_0 ⟨fun _ => hQ, fun g => absurd (by rw [h0]; decide) g⟩
theorem fz_isBody {a1 : Int32} (h0 : h.2.1 (.inl 90) 0 = 0) (hQ : Q (some (.inl (.int 0))) h) : mx_C E (mx_fn true) (d + 1) 163 [.inr (.inl 0), .inl (.int a1)] h Q := by
  refine sg163_0 (sp_wi (fun g => ?_) (fun _ => ?_))
  · rw [h0] at g
    exact absurd g sp_e0
  · exact hx_i ⟨Or.inl rfl, hQ⟩
theorem fz_isShape {a1 : Int32} (h0 : h.2.1 (.inl 105) 1 = 0) (hQ : Q (some (.inl (.int 0))) h) : mx_C E (mx_fn true) (d + 1) 177 [.inr (.inl 105), .inl (.int a1)] h Q := by
  refine sg177_0 (sp_ini (fun g => ?_) (fun _ => ?_))
  · rw [h0] at g
    exact absurd g sp_e0
  · exact hx_i ⟨Or.inl rfl, hQ⟩
theorem fz_isBodyM {a1 : Int32} (h0 : h.2.1 (.inl 105) 12 = 0) (hQ : Q (some (.inl (.int 0))) h) : mx_C E (mx_fn true) (d + 1) 283 [.inr (.inl 105), .inl (.int a1)] h Q := by
  refine sg283_0 (sp_ini (fun g => ?_) (fun _ => ?_))
  · rw [h0] at g
    exact absurd g sp_e0
  · exact hx_i ⟨Or.inl rfl, hQ⟩
theorem fz_was {a1 : Int32} (h0 : h.2.1 (.inl 71) 2 = 0) (hQ : Q (some (.inl (.int 0))) h) : mx_C E (mx_fn true) d 7 [.inr (.inl 71), .inl (.int a1)] h Q :=
  sg7_0 ⟨fun _ => ⟨Or.inl rfl, hQ⟩, fun g => absurd (by rw [h0]; decide) g⟩
/-- a predicate of the class by within -/
theorem fz_p {n : Nat} {a lo hi : Int32} {l : List mx_V} (sg : (mx_C E (mx_fn true) d 157 [.inl (.int a), .inl (.int lo), .inl (.int hi)] h (fun v1 h2 => ∀ x3, v1 = some (.inl (.int x3)) → (((x3 : Int32) = 0 ∨ (x3 : Int32) = 1) ∧ (Q (some (.inl (.int x3))) h2)))) → mx_C E (mx_fn true) (d + 1) n l h Q)
    (h1 : (lo ≤ a ∧ a ≤ hi) → Q (some (.inl (.int 1))) h) (h0 : ¬ (lo ≤ a ∧ a ≤ hi) → Q (some (.inl (.int 0))) h) : mx_C E (mx_fn true) (d + 1) n l h Q :=
  sg (sp_wi (fun g => hx_i ⟨Or.inr rfl, h1 g⟩) (fun g => hx_i ⟨Or.inl rfl, h0 g⟩))
theorem fz_q {n : Nat} {a lo hi : Int32} {l : List mx_V} (sg : (mx_C E (mx_fn true) d 173 [.inl (.int a), .inl (.int lo), .inl (.int hi)] h (fun v1 h2 => ∀ x3, v1 = some (.inl (.int x3)) → (((x3 : Int32) = 0 ∨ (x3 : Int32) = 1) ∧ (Q (some (.inl (.int x3))) h2)))) → mx_C E (mx_fn true) (d + 1) n l h Q)
    (h1 : (lo ≤ a ∧ a ≤ hi) → Q (some (.inl (.int 1))) h) (h0 : ¬ (lo ≤ a ∧ a ≤ hi) → Q (some (.inl (.int 0))) h) : mx_C E (mx_fn true) (d + 1) n l h Q :=
  sg (sp_ini (fun g => hx_i ⟨Or.inr rfl, h1 g⟩) (fun g => hx_i ⟨Or.inl rfl, h0 g⟩))
end FZ
/-! ===== intervals of ints ===== -/
def sf_iv (lo hi : Int) (x : Int32) : Prop := lo ≤ x.toInt ∧ x.toInt ≤ hi
theorem iv_rng (x : Int32) : sf_iv (-2147483648) 2147483647 x := ⟨Int32.le_toInt x, Int32.toInt_le x⟩
theorem iv_bm {z : Int} (h1 : -2147483648 ≤ z) (h2 : z ≤ 2147483647) : z.bmod (2 ^ 32) = z := Int.bmod_eq_of_le (by omega) (by omega)
theorem iv_k {n : Int} {x : Int32} (h : x.toInt = n) : sf_iv n n x := ⟨Int.le_of_eq h.symm, Int.le_of_eq h⟩
theorem iv_w {a b c d : Int} {x : Int32} (h : sf_iv a b x) (hc : (decide (c ≤ a) && decide (b ≤ d)) = true) : sf_iv c d x := by
  rw [Bool.and_eq_true, decide_eq_true_eq, decide_eq_true_eq] at hc
  exact ⟨Int.le_trans hc.1 h.1, Int.le_trans h.2 hc.2⟩
def iv_cb (a b lo hi : Int) : Bool := decide (lo ≤ a) && (decide (b ≤ hi) && (decide (-2147483648 ≤ a) && decide (b ≤ 2147483647)))
theorem iv_cb_s {a b lo hi : Int} (h : iv_cb a b lo hi = true) : lo ≤ a ∧ b ≤ hi ∧ -2147483648 ≤ a ∧ b ≤ 2147483647 := by
  simpa [iv_cb] using h
theorem iv_add {a b c d lo hi : Int} {x y : Int32} (hx : sf_iv a b x) (hy : sf_iv c d y) (hc : iv_cb (a + c) (b + d) lo hi = true) : sf_iv lo hi (x + y) := by
  obtain ⟨h1, h2, h3, h4⟩ := iv_cb_s hc
  obtain ⟨x1, x2⟩ := hx
  obtain ⟨y1, y2⟩ := hy
  have e : (x + y).toInt = x.toInt + y.toInt := by rw [Int32.toInt_add, iv_bm (by omega) (by omega)]
  exact ⟨by omega, by omega⟩
theorem iv_sub {a b c d lo hi : Int} {x y : Int32} (hx : sf_iv a b x) (hy : sf_iv c d y) (hc : iv_cb (a - d) (b - c) lo hi = true) : sf_iv lo hi (x - y) := by
  obtain ⟨h1, h2, h3, h4⟩ := iv_cb_s hc
  obtain ⟨x1, x2⟩ := hx
  obtain ⟨y1, y2⟩ := hy
  have e : (x - y).toInt = x.toInt - y.toInt := by rw [Int32.toInt_sub, iv_bm (by omega) (by omega)]
  exact ⟨by omega, by omega⟩
/-- a product of a number that isn't below 0 -/
theorem iv_mul {b d lo hi : Int} {x y : Int32} (hx : sf_iv 0 b x) (hy : sf_iv 0 d y) (hc : iv_cb 0 (b * d) lo hi = true) : sf_iv lo hi (x * y) := by
  obtain ⟨h1, h2, h3, h4⟩ := iv_cb_s hc
  obtain ⟨x1, x2⟩ := hx
  obtain ⟨y1, y2⟩ := hy
  have p0 : 0 ≤ x.toInt * y.toInt := Int.mul_nonneg x1 y1
  have p1 : x.toInt * y.toInt ≤ b * d := Int.mul_le_mul x2 y2 y1 (Int.le_trans x1 x2)
  have e : (x * y).toInt = x.toInt * y.toInt := by rw [Int32.toInt_mul, iv_bm (by omega) (by omega)]
  exact ⟨by omega, by omega⟩
theorem iv_neg {a b lo hi : Int} {x : Int32} (hx : sf_iv a b x) (hc : iv_cb (-b) (-a) lo hi = true) : sf_iv lo hi (-x) := by
  obtain ⟨h1, h2, h3, h4⟩ := iv_cb_s hc
  obtain ⟨x1, x2⟩ := hx
  have e : (-x).toInt = -x.toInt := by rw [Int32.toInt_neg, iv_bm (by omega) (by omega)]
  exact ⟨by omega, by omega⟩
/-- a quotient of a number that isn't below 0 by one above 0 -/
theorem iv_div {a b k lo hi : Int} {x y : Int32} (hx : sf_iv a b x) (hy : sf_iv k k y) (hc : (decide (0 ≤ a) && (decide (0 < k) && (decide (lo ≤ a / k) && decide (b / k ≤ hi)))) = true) : sf_iv lo hi (x / y) := by
  simp only [Bool.and_eq_true, decide_eq_true_eq] at hc
  obtain ⟨h1, h2, h3, h4⟩ := hc
  obtain ⟨x1, x2⟩ := hx
  obtain ⟨y1, y2⟩ := hy
  have ey : y.toInt = k := by omega
  have r := (iv_rng x).2
  have q0 : 0 ≤ x.toInt / k := Int.ediv_nonneg (by omega) (by omega)
  have q1 : x.toInt / k ≤ x.toInt := Int.ediv_le_self _ (by omega)
  have e : (x / y).toInt = x.toInt / k := by rw [Int32.toInt_div, ey, Int.tdiv_eq_ediv_of_nonneg (by omega), iv_bm (by omega) (by omega)]
  have m1 : a / k ≤ x.toInt / k := Int.ediv_le_ediv h2 x1
  have m2 : x.toInt / k ≤ b / k := Int.ediv_le_ediv h2 x2
  exact ⟨by omega, by omega⟩
/-- a rest of a number that isn't below 0 -/
theorem iv_rem {a b k lo hi : Int} {x y : Int32} (hx : sf_iv a b x) (hy : sf_iv k k y) (hc : (decide (0 ≤ a) && (decide (0 < k) && (decide (lo ≤ 0) && decide (k - 1 ≤ hi)))) = true) : sf_iv lo hi (x - x / y * y) := by
  simp only [Bool.and_eq_true, decide_eq_true_eq] at hc
  obtain ⟨h1, h2, h3, h4⟩ := hc
  obtain ⟨x1, x2⟩ := hx
  obtain ⟨y1, y2⟩ := hy
  have ey : y.toInt = k := by omega
  have r := (iv_rng x).2
  have ry := (iv_rng y).2
  have q0 : 0 ≤ x.toInt / k := Int.ediv_nonneg (by omega) (by omega)
  have q1 : x.toInt / k ≤ x.toInt := Int.ediv_le_self _ (by omega)
  have e : (x / y).toInt = x.toInt / k := by rw [Int32.toInt_div, ey, Int.tdiv_eq_ediv_of_nonneg (by omega), iv_bm (by omega) (by omega)]
  have p0 : 0 ≤ x.toInt / k * k := Int.mul_nonneg q0 (by omega)
  have p1 : x.toInt / k * k ≤ x.toInt := Int.ediv_mul_le _ (by omega)
  have e2 : (x / y * y).toInt = x.toInt / k * k := by rw [Int32.toInt_mul, e, ey, iv_bm (by omega) (by omega)]
  have e3 : (x - x / y * y).toInt = x.toInt - x.toInt / k * k := by rw [Int32.toInt_sub, e2, iv_bm (by omega) (by omega)]
  have m : x.toInt - x.toInt / k * k = x.toInt % k := by
    have := Int.mul_ediv_add_emod x.toInt k
    rw [Int.mul_comm] at this
    omega
  have m0 := Int.emod_nonneg x.toInt (show k ≠ 0 by omega)
  have m1 := Int.emod_lt_of_pos x.toInt h2
  exact ⟨by omega, by omega⟩
theorem iv_ite {a b c d lo hi : Int} {p : Prop} [Decidable p] {x y : Int32} (hx : p → sf_iv a b x) (hy : ¬ p → sf_iv c d y) (hc : (decide (lo ≤ a) && (decide (b ≤ hi) && (decide (lo ≤ c) && decide (d ≤ hi)))) = true) : sf_iv lo hi (if p then x else y) := by
  simp only [Bool.and_eq_true, decide_eq_true_eq] at hc
  obtain ⟨h1, h2, h3, h4⟩ := hc
  by_cases hp : p
  · rw [if_pos hp]
    exact ⟨Int.le_trans h1 (hx hp).1, Int.le_trans (hx hp).2 h2⟩
  · rw [if_neg hp]
    exact ⟨Int.le_trans h3 (hy hp).1, Int.le_trans (hy hp).2 h4⟩
/-! what a comparison tells -/
theorem iv_ltl {a b c d : Int} {x y : Int32} (g : x < y) (hx : sf_iv a b x) (hy : sf_iv c d y) : sf_iv a (min b (d - 1)) x := by
  have := Int32.lt_iff_toInt_lt.mp g
  obtain ⟨x1, x2⟩ := hx
  obtain ⟨y1, y2⟩ := hy
  exact ⟨x1, by omega⟩
theorem iv_ltr {a b c d : Int} {x y : Int32} (g : x < y) (hx : sf_iv a b x) (hy : sf_iv c d y) : sf_iv (max c (a + 1)) d y := by
  have := Int32.lt_iff_toInt_lt.mp g
  obtain ⟨x1, x2⟩ := hx
  obtain ⟨y1, y2⟩ := hy
  exact ⟨by omega, y2⟩
theorem iv_lel {a b c d : Int} {x y : Int32} (g : x ≤ y) (hx : sf_iv a b x) (hy : sf_iv c d y) : sf_iv a (min b d) x := by
  have := Int32.le_iff_toInt_le.mp g
  obtain ⟨x1, x2⟩ := hx
  obtain ⟨y1, y2⟩ := hy
  exact ⟨x1, by omega⟩
theorem iv_ler {a b c d : Int} {x y : Int32} (g : x ≤ y) (hx : sf_iv a b x) (hy : sf_iv c d y) : sf_iv (max c a) d y := by
  have := Int32.le_iff_toInt_le.mp g
  obtain ⟨x1, x2⟩ := hx
  obtain ⟨y1, y2⟩ := hy
  exact ⟨by omega, y2⟩
theorem iv_eql {a b c d : Int} {x y : Int32} (g : x = y) (hx : sf_iv a b x) (hy : sf_iv c d y) : sf_iv (max a c) (min b d) x := by
  subst g
  obtain ⟨x1, x2⟩ := hx
  obtain ⟨y1, y2⟩ := hy
  exact ⟨by omega, by omega⟩
/-- not the lowest, not the greatest -/
theorem iv_nel {a b k : Int} {x y : Int32} (g : ¬ x = y) (hx : sf_iv a b x) (hy : sf_iv k k y) : sf_iv (if a = k then a + 1 else a) (if b = k then b - 1 else b) x := by
  have g2 : x.toInt ≠ y.toInt := fun e => g (Int32.toInt_inj.mp e)
  obtain ⟨x1, x2⟩ := hx
  obtain ⟨y1, y2⟩ := hy
  exact ⟨by split <;> omega, by split <;> omega⟩
theorem iv_no {a b : Int} {x : Int32} (h : sf_iv a b x) (hc : decide (b < a) = true) : False := by
  rw [decide_eq_true_eq] at hc
  obtain ⟨x1, x2⟩ := h
  omega
theorem iv_in {a b : Int} {n : Nat} {x : Int32} (h : sf_iv a b x) (hc : (decide (0 ≤ a) && decide (b < n)) = true) : vp_in x n := by
  simp only [Bool.and_eq_true, decide_eq_true_eq] at hc
  obtain ⟨x1, x2⟩ := h
  refine sp_vin (Int32.le_iff_toInt_le.mpr ?_) ?_
  · show (0 : Int32).toInt ≤ _
    rw [show (0 : Int32).toInt = 0 from rfl]
    omega
  · show x.toInt.toNat < n
    omega
theorem iv_clamp {a b : Int} {n : Nat} {x : Int32} (h : sf_iv a b x) (hc : (decide (0 ≤ a) && decide (b < n)) = true) : x.toNatClampNeg < n := by
  simp only [Bool.and_eq_true, decide_eq_true_eq] at hc
  obtain ⟨x1, x2⟩ := h
  show x.toInt.toNat < n
  omega
theorem iv_ne0 {a b : Int} {x : Int32} (h : sf_iv a b x) (hc : (decide (0 < a) || decide (b < 0)) = true) : ¬ x = 0 := by
  simp only [Bool.or_eq_true, decide_eq_true_eq] at hc
  obtain ⟨x1, x2⟩ := h
  rintro rfl
  rw [show (0 : Int32).toInt = 0 from rfl] at x1 x2
  omega
theorem iv_bool {x : Int32} (h : sf_iv 0 1 x) : x = 0 ∨ x = 1 := by
  obtain ⟨x1, x2⟩ := h
  rcases (show x.toInt = 0 ∨ x.toInt = 1 by omega) with q | q
  · exact Or.inl (Int32.toInt_inj.mp q)
  · exact Or.inr (Int32.toInt_inj.mp q)
/-- a loop that counts: what is left -/
theorem iv_up {lo hi : Int} {n : Nat} {x : Int32} (hm : (2147483647 - x.toInt).toNat < n + 1) (p : sf_iv lo hi x) (hc : decide (hi < 2147483647) = true) : (2147483647 - (x + 1).toInt).toNat < n := by
  rw [decide_eq_true_eq] at hc
  have r := (iv_rng x).1
  obtain ⟨x1, x2⟩ := p
  have e : (x + 1).toInt = x.toInt + 1 := by rw [Int32.toInt_add, show (1 : Int32).toInt = 1 from rfl, iv_bm (by omega) (by omega)]
  rw [e]
  omega
theorem iv_dn {lo hi : Int} {n : Nat} {x : Int32} (hm : (x.toInt + 2147483648).toNat < n + 1) (p : sf_iv lo hi x) (hc : decide (-2147483648 < lo) = true) : ((x + (-1)).toInt + 2147483648).toNat < n := by
  rw [decide_eq_true_eq] at hc
  have r := (iv_rng x).2
  obtain ⟨x1, x2⟩ := p
  have e : (x + (-1)).toInt = x.toInt + (-1) := by rw [Int32.toInt_add, show (-1 : Int32).toInt = -1 from rfl, iv_bm (by omega) (by omega)]
  rw [e]
  omega
theorem iv_ua {a b lo hi l h k : Int} {u y : Int32} (pu : sf_iv a b u) (p : sf_iv l h (u + y)) (hy : y.toInt = k) (hc : (decide (-2147483648 ≤ a + k) && (decide (b + k ≤ 2147483647) && (decide (lo ≤ max a (l - k)) && decide (min b (h - k) ≤ hi)))) = true) : sf_iv lo hi u := by
  simp only [Bool.and_eq_true, decide_eq_true_eq] at hc
  obtain ⟨h1, h2, h3, h4⟩ := hc
  obtain ⟨u1, u2⟩ := pu
  obtain ⟨p1, p2⟩ := p
  have e : (u + y).toInt = u.toInt + y.toInt := by rw [Int32.toInt_add, iv_bm (by omega) (by omega)]
  exact ⟨by omega, by omega⟩
theorem iv_and {m : Int} {x y : Int32} (hy : y.toInt = m) (hm : decide (0 ≤ m) = true) : sf_iv 0 m (x &&& y) := by
  rw [decide_eq_true_eq] at hm
  have e1 : (x &&& y).toBitVec.toNat ≤ y.toBitVec.toNat := by
    rw [Int32.toBitVec_and, BitVec.toNat_and]
    exact Nat.and_le_right
  have ey : y.toInt = (y.toBitVec.toNat : Int) := by
    have h0 : y.toInt = y.toBitVec.toInt := rfl
    rw [h0, BitVec.toInt_eq_toNat_cond] at hy
    rw [h0, BitVec.toInt_eq_toNat_cond]
    split at hy
    · rw [if_pos (by assumption)]
    · have := y.toBitVec.isLt
      omega
  have hl : 2 * y.toBitVec.toNat < 2 ^ 32 := by
    have := (iv_rng y).2
    omega
  have ex : (x &&& y).toInt = ((x &&& y).toBitVec.toNat : Int) := by
    show (x &&& y).toBitVec.toInt = _
    rw [BitVec.toInt_eq_toNat_cond, if_pos (by omega)]
  exact ⟨by omega, by omega⟩
theorem iv_max {a b c d lo hi : Int} {x y : Int32} (hx : sf_iv a b x) (hy : sf_iv c d y) (hc : (decide (lo ≤ max a c) && decide (max b d ≤ hi)) = true) : sf_iv lo hi (if x < y then y else x) := by
  simp only [Bool.and_eq_true, decide_eq_true_eq] at hc
  obtain ⟨x1, x2⟩ := hx
  obtain ⟨y1, y2⟩ := hy
  split
  · next g =>
    have := Int32.lt_iff_toInt_lt.mp g
    exact ⟨by omega, by omega⟩
  · next g =>
    have := Int32.le_iff_toInt_le.mp (Int32.not_lt.mp g)
    exact ⟨by omega, by omega⟩
theorem iv_min {a b c d lo hi : Int} {x y : Int32} (hx : sf_iv a b x) (hy : sf_iv c d y) (hc : (decide (lo ≤ min a c) && decide (min b d ≤ hi)) = true) : sf_iv lo hi (if y < x then y else x) := by
  simp only [Bool.and_eq_true, decide_eq_true_eq] at hc
  obtain ⟨x1, x2⟩ := hx
  obtain ⟨y1, y2⟩ := hy
  split
  · next g =>
    have := Int32.lt_iff_toInt_lt.mp g
    exact ⟨by omega, by omega⟩
  · next g =>
    have := Int32.le_iff_toInt_le.mp (Int32.not_lt.mp g)
    exact ⟨by omega, by omega⟩
theorem iv_abs {a b lo hi : Int} {x : Int32} (hx : sf_iv a b x) (hc : (decide (-2147483648 < a) && (decide (lo ≤ 0) && (decide (b ≤ hi) && decide (-a ≤ hi)))) = true) : sf_iv lo hi (if 0 ≤ x then x else 0 - x) := by
  simp only [Bool.and_eq_true, decide_eq_true_eq] at hc
  obtain ⟨x1, x2⟩ := hx
  split
  · next g =>
    have : (0 : Int32).toInt ≤ x.toInt := Int32.le_iff_toInt_le.mp g
    rw [show (0 : Int32).toInt = 0 from rfl] at this
    exact ⟨by omega, by omega⟩
  · next g =>
    have : x.toInt < (0 : Int32).toInt := Int32.lt_iff_toInt_lt.mp (Int32.not_le.mp g)
    rw [show (0 : Int32).toInt = 0 from rfl] at this
    have e : (0 - x).toInt = 0 - x.toInt := by rw [Int32.toInt_sub, show (0 : Int32).toInt = 0 from rfl, iv_bm (by omega) (by omega)]
    exact ⟨by omega, by omega⟩
theorem iv_i2b (x : Int32) : sf_iv (-128) 127 x.toInt8.toInt32 := by
  have h1 := Int8.le_toInt x.toInt8
  have h2 := Int8.toInt_le x.toInt8
  unfold sf_iv
  rw [Int8.toInt_toInt32]
  exact ⟨h1, h2⟩
theorem iv_i2s (x : Int32) : sf_iv (-32768) 32767 x.toInt16.toInt32 := by
  have h1 := Int16.le_toInt x.toInt16
  have h2 := Int16.toInt_le x.toInt16
  unfold sf_iv
  rw [Int16.toInt_toInt32]
  exact ⟨h1, h2⟩
theorem iv_wi {a b c d e f : Int} {x l h : Int32} (hx : sf_iv a b x) (hl : sf_iv c d l) (hh : sf_iv e f h) (hc : (decide (d ≤ a) && decide (b ≤ e)) = true) : l ≤ x ∧ x ≤ h := by
  simp only [Bool.and_eq_true, decide_eq_true_eq] at hc
  obtain ⟨x1, x2⟩ := hx
  obtain ⟨l1, l2⟩ := hl
  obtain ⟨h1, h2⟩ := hh
  exact ⟨Int32.le_iff_toInt_le.mpr (by omega), Int32.le_iff_toInt_le.mpr (by omega)⟩
theorem iv_e {lo hi : Int} {x y : Int32} (e : x = y) (p : sf_iv lo hi y) : sf_iv lo hi x := e ▸ p
theorem iv_o {lo hi : Int} {H : mx_H} {a b : mx_A} {i j : Nat} {v : Int32} (hne : b ≠ a) (p : sf_iv lo hi (H.2.1 b j)) : sf_iv lo hi ((mx_uI H a i v).2.1 b j) := iv_e (sp_up_ne hne) p
theorem iv_s {lo hi : Int} {H : mx_H} {a : mx_A} {i : Nat} {v : Int32} (p : sf_iv lo hi v) : sf_iv lo hi ((mx_uI H a i v).2.1 a i) := iv_e (if_pos ⟨rfl, rfl⟩) p
theorem iv_g {lo hi : Int} {H : mx_H} {a : mx_A} {i j : Nat} {v : Int32} (hj : j ≠ i) (p : sf_iv lo hi (H.2.1 a j)) : sf_iv lo hi ((mx_uI H a i v).2.1 a j) := iv_e (if_neg (fun q => hj q.2)) p
theorem iv_L {lo hi : Int} {H : mx_H} {a b : mx_A} {i j : Nat} {v : Int64} (p : sf_iv lo hi (H.2.1 b j)) : sf_iv lo hi ((mx_uL H a i v).2.1 b j) := p
theorem ne_lr {k : Nat} {q : Nat × Nat} : (.inl k : mx_A) ≠ .inr q := fun e => by cases e
theorem ne_rl {k : Nat} {q : Nat × Nat} : (.inr q : mx_A) ≠ .inl k := fun e => by cases e
theorem ne_oo {j j2 o o2 : Nat} (h : o ≠ o2) : (.inr (j, o) : mx_A) ≠ .inr (j2, o2) := fun e => h (congrArg Prod.snd (Sum.inr.inj e))
theorem hx_s {j : Nat} {A : Nat → Prop} {B : Prop} (h : A j) : (∀ j', (some (.inr (.inr (j, 0))) : Option mx_V) = some (.inr (.inr (j', 0))) → A j') ∧ ((some (.inr (.inr (j, 0))) : Option mx_V) = some (.inl .null) → B) ∧ (∀ b, (some (.inr (.inr (j, 0))) : Option mx_V) = some (.inr b) → ∃ j', b = .inr (j', 0)) :=
  ⟨fun j' e => (by cases e; exact h), fun e => (by cases e), fun b e => (by cases e; exact ⟨j, rfl⟩)⟩
theorem fn98 {t : Nat} (ht : t < 6) : mx_fn true (.inl 98) t = some (.inr (t, 20)) := by
  show (bif Nat.blt t 6 then some (.inr (t, 20)) else none : Option mx_A) = _
  rw [show Nat.blt t 6 = true by simpa using ht]
  rfl
theorem iv_sv0 (E : mx_Ev) (k : Nat) : sf_iv (-1) 4 (mx_sval E 0 k) := by
  show sf_iv (-1) 4 (mx_k0 k)
  unfold mx_k0
  rcases (show k = 0 ∨ k = 1 ∨ k = 2 ∨ k = 3 ∨ k = 4 ∨ k = 5 ∨ 6 ≤ k by omega) with rfl | rfl | rfl | rfl | rfl | rfl | h
  · exact ⟨by decide +kernel, by decide +kernel⟩
  · exact ⟨by decide +kernel, by decide +kernel⟩
  · exact ⟨by decide +kernel, by decide +kernel⟩
  · exact ⟨by decide +kernel, by decide +kernel⟩
  · exact ⟨by decide +kernel, by decide +kernel⟩
  · exact ⟨by decide +kernel, by decide +kernel⟩
  · rw [List.getD_eq_getElem?_getD, List.getElem?_eq_none (by simpa using h)]
    exact ⟨by decide +kernel, by decide +kernel⟩
theorem iv_sv1 (E : mx_Ev) (k : Nat) : sf_iv 0 61 (mx_sval E 1 k) := by
  show sf_iv 0 61 (mx_k1 k)
  rcases Nat.lt_or_ge k 24 with h | h
  · have q : ∀ k, k < 24 → (0 : Int) ≤ (mx_k1 k).toInt ∧ (mx_k1 k).toInt ≤ 61 := by decide +kernel
    exact q k h
  · unfold mx_k1
    rw [List.getD_eq_getElem?_getD, List.getElem?_eq_none (by simpa using h)]
    exact ⟨by decide +kernel, by decide +kernel⟩
theorem iv_ne0L {a b : Int} {x : Int32} (h : sf_iv a b x) (hc : (decide (0 < a) || decide (b < 0)) = true) : ¬ x.toInt64 = 0 := fun e => by
  have e2 := congrArg Int64.toInt e
  rw [Int32.toInt_toInt64, show (0 : Int64).toInt = 0 from rfl] at e2
  simp only [Bool.or_eq_true, decide_eq_true_eq] at hc
  obtain ⟨x1, x2⟩ := h
  omega
theorem iv_rem2 {a b c d lo hi : Int} {x y : Int32} (hx : sf_iv a b x) (hy : sf_iv c d y) (hc : (decide (0 ≤ a) && (decide (0 < c) && (decide (lo ≤ 0) && decide (d - 1 ≤ hi)))) = true) : sf_iv lo hi (x - x / y * y) := by
  simp only [Bool.and_eq_true, decide_eq_true_eq] at hc
  obtain ⟨h1, h2, h3, h4⟩ := hc
  obtain ⟨y1, y2⟩ := hy
  exact iv_w (iv_rem (lo := 0) (hi := y.toInt - 1) hx ⟨Int.le_refl _, Int.le_refl _⟩ (by simp only [Bool.and_eq_true, decide_eq_true_eq]; omega)) (by simp only [Bool.and_eq_true, decide_eq_true_eq]; omega)
/-! ===== regions of ints, their bounds, what holds between ints, what a call may write ===== -/
def sf_rgT : List (List Nat) := [[0, 14, 17, 18, 19, 32, 33, 34, 35, 36, 37, 38, 39, 40, 52, 53], [54, 55, 56, 57, 58, 59, 60, 61, 62, 74, 75, 76, 77, 78, 79, 80], [81, 82, 83, 84, 90, 91, 92, 104, 105, 106, 107, 108, 109, 110, 111, 112], [113, 114, 126, 127, 128, 129, 130, 131, 132, 133, 134, 135, 136, 149, 150, 151], [152, 153, 154, 155, 156, 162, 163, 164, 175, 176, 177, 178, 179, 180, 181, 182], [183, 187, 188, 189, 190, 197, 198, 199, 200, 201, 202, 207, 208, 209, 210, 214], [215, 216, 217, 218, 219, 220, 221, 222, 223, 224, 318, 319, 320, 321, 322, 323], [324, 325, 326, 327, 328, 329, 330, 331, 332, 333, 334, 335, 336, 337, 338, 339], [340, 341, 342, 343, 344, 345, 346, 347, 348, 349, 350, 351, 352, 353, 354, 355], [356, 357, 358, 359, 360, 361, 362, 363, 364, 365, 366, 367, 368, 369, 370, 371], [372, 373, 374, 375, 376, 377, 378]]
def sf_rg : mx_A → Nat → Nat
  | .inl n, i => bif Nat.blt (mx_lo (.inl n)).1 100 then (sf_rgT.getD (n / 16) []).getD (n % 16) 0 + i else (sf_rgT.getD (n / 16) []).getD (n % 16) 0
  | .inr (_, o), i => bif Nat.beq o 0 then 379 + i else bif Nat.blt o 9 then 391 + o else bif Nat.beq o 30 then 400 + i else bif Nat.blt o 30 then 422 else 411 + (o - 30)
def sf_bdT : List (List (Int × Int)) := [[(0, 0), (0, 0), (0, 12), (0, 0), (0, 0), (0, 0), (0, 0), (0, 0), (0, 0), (0, 0), (0, 0), (0, 0), (0, 0), (0, 0), (0, 0), (0, 120)],
  [(0, 120), (0, 255), (0, 0), (0, 0), (0, 0), (0, 0), (0, 0), (0, 0), (0, 0), (0, 0), (0, 0), (0, 0), (0, 0), (0, 0), (0, 0), (0, 0)],
  [(0, 0), (0, 0), (0, 0), (0, 0), (0, 0), (0, 0), (0, 0), (0, 0), (0, 0), (0, 0), (0, 0), (0, 0), (0, 0), (0, 0), (0, 0), (0, 0)],
  [(0, 0), (0, 0), (0, 0), (0, 0), (0, 0), (0, 0), (0, 0), (0, 0), (0, 0), (0, 0), (0, 0), (0, 0), (0, 0), (0, 0), (0, 0), (0, 0)],
  [(0, 0), (0, 0), (0, 0), (0, 0), (0, 0), (0, 0), (0, 0), (0, 0), (0, 0), (0, 0), (0, 0), (0, 0), (0, 0), (0, 0), (0, 0), (0, 0)],
  [(0, 0), (0, 0), (0, 0), (0, 0), ((-2147483648), 2147483647), ((-2147483648), 2147483647), (0, 0), (0, 0), (0, 0), (0, 0), ((-2147483648), 2147483647), (0, 5), (0, 0), (0, 0), (0, 0), (0, 0)],
  [(0, 0), (0, 0), (0, 0), (0, 0), (0, 0), (0, 0), (0, 0), (0, 0), (0, 0), (0, 0), (0, 0), (0, 0), (0, 0), (0, 0), (0, 0), (0, 0)],
  [(0, 0), (0, 0), (0, 0), (0, 0), (0, 0), (0, 0), (0, 0), (0, 0), (0, 0), (0, 0), (0, 0), (0, 0), (0, 0), (0, 0), (0, 0), (0, 0)],
  [(0, 0), (0, 0), (0, 0), (0, 0), (0, 0), (0, 0), (0, 0), (0, 0), (0, 11), (0, 6), (0, 0), (0, 0), (0, 0), (0, 6), (0, 0), (0, 0)],
  [(0, 0), (0, 0), ((-2147483648), 2147483647), (0, 4), ((-2147483648), 2147483647), (0, 4), (0, 14), (0, 3), (0, 5), (0, 9), (0, 99), ((-2147483648), 2147483647), (0, 6), (0, 0), ((-2147483648), 2147483647), ((-1), 14)],
  [(0, 9), (0, 0), (0, 99), ((-2147483648), 2147483647), (0, 500), (0, 0), (0, 200), (0, 0), (0, 0), (0, 0), (0, 0), (0, 6), (0, 0), (0, 0), (0, 0), ((-1), 5)],
  [((-1), 5), ((-2147483648), 2147483647), ((-2147483648), 2147483647), ((-2147483648), 2147483647), (0, 5), ((-99), 99), (0, 99), (0, 6), (0, 0), (0, 0), (0, 0), (0, 9), (0, 9), (0, 99), (0, 40), (0, 40)],
  [(0, 0), (0, 0), (0, 0), (0, 0), (0, 0), (0, 0), (0, 4), (0, 14), (0, 99), (0, 99), (0, 200), (0, 0), (0, 0), (0, 1000), (0, 0), (0, 5)],
  [(0, 0), (0, 63), (0, 0), (0, 0), (0, 0), (0, 0), ((-2), 4), (0, 60), (0, 199), (0, 0), (0, 0), (0, 0), (0, 0), (0, 0), (0, 0), (0, 0)],
  [(0, 0), (0, 12), (0, 0), (0, 0), (0, 0), (0, 0), (0, 0), (0, 0), (0, 0), (0, 0), (0, 0), (0, 0), (0, 200), (0, 0), (0, 0), (0, 0)],
  [(0, 120), (0, 120), ((-1), 120), (0, 15), (0, 0), (0, 0), (0, 0), (0, 0), (0, 40), (0, 40), (0, 0), (0, 0), (0, 0), (0, 0), (0, 0), (0, 0)],
  [(0, 0), (0, 0), (0, 0), (0, 6), (0, 0), (0, 6), (0, 0), (0, 0), (0, 0), (0, 0), ((-2147483648), 2147483647), (0, 0), (0, 0), (0, 0), ((-2147483648), 2147483647), ((-2147483648), 2147483647)],
  [(0, 5), (0, 1), ((-2147483648), 2147483647), (0, 6), (0, 11), (0, 0), (0, 0), (0, 0), (0, 6), (0, 0), (0, 0), (0, 0), (0, 0), ((-1), 4), ((-2147483648), 2147483647), ((-1), 2147483647)],
  [(0, 4), (0, 6), (0, 0), ((-2147483648), 2147483647), ((-1), 199), (0, 9), (0, 0), (0, 500), (0, 0), (0, 0), (0, 200), (0, 0), (0, 0), (0, 0), (0, 0), (0, 6)],
  [(0, 0), (0, 0), (0, 0), (0, 6), (0, 0), (0, 0), (0, 0), (0, 0), (0, 1000), (0, 0), (0, 0), (0, 0), (0, 0), (0, 0), (0, 6), (0, 9)],
  [(0, 9), (0, 9), (0, 1), (0, 9), (0, 9), (0, 201), ((-1), 11), (0, 11), (0, 5), (0, 468), ((-128), 127), (0, 5), (0, 5), (0, 1), (0, 1), (0, 5)],
  [(0, 467), (0, 9), (0, 9), (0, 9), ((-2147483648), 2147483647), ((-2147483648), 2147483647), (0, 1), ((-2147483648), 2147483647), (0, 0), (0, 0), (0, 5), (0, 0), ((-2147483648), 2147483647), ((-2147483648), 2147483647), (0, 99), (0, 5)],
  [(0, 5), ((-1), 5), (0, 3), (0, 5), (0, 9), (0, 99), (0, 3), (0, 99), ((-2147483648), 2147483647), ((-1), 5), ((-1), 5), ((-2147483648), 2147483647), ((-2147483648), 2147483647), ((-2147483648), 2147483647), ((-2147483648), 2147483647), (0, 5)],
  [((-99), 99), (0, 99), (0, 9), (0, 9), (0, 11), (0, 99), (0, 63), ((-6), 199), (0, 60), (0, 0), (0, 0), (0, 6), (0, 0), (0, 0), (0, 0), (0, 0)],
  [(0, 200), (0, 15), (0, 0), (0, 0), (0, 0), (0, 0), ((-1), 11), ((-1), 11), (0, 99), (0, 99), (0, 99), (0, 99), (0, 5), (0, 5), (0, 9), (0, 9)],
  [(0, 6), (0, 0), (0, 0), (0, 0), (0, 0), (0, 0), (0, 0), (0, 6), (0, 0), (0, 0), (0, 0), (0, 0), ((-2147483648), 2147483647), ((-2147483648), 2147483647), ((-2147483648), 2147483647), ((-2147483648), 2147483647)],
  [(0, 0), (0, 5), (0, 0), (0, 0), (0, 0), (0, 0), (0, 0)]]
def sf_bR (r : Nat) : Int × Int := (sf_bdT.getD (r / 16) []).getD (r % 16) (-2147483648, 2147483647)
def sf_bd (a : mx_A) (i : Nat) : Int × Int := sf_bR (sf_rg a i)
/-- where references to shapes lie that change: shapes, the draft, history's, homes -/
def sf_rr : mx_A → Nat
  | .inl n => bif Nat.beq n 3 then 424 else bif Nat.beq n 0 then 425 else bif Nat.beq n 85 then 426 else bif Nat.beq n 92 then 427 else 428
  | .inr _ => 428
/-- the regions of which more is known than bounds -/
def sf_jm : Nat := 484251887466381787897445801280719149899206322997465044506403229429033934336710497741664434975583127624845043872699514884
def sf_jr (r : Nat) : Bool := sf_jm.testBit r
/-- the ints of those regions, as numbers -/
def sf_jf (h : mx_H) (a : mx_A) (i : Nat) : Int := bif sf_jr (sf_rg a i) then (h.2.1 a i).toInt else 0
/-- the class: pieces lie between corners -/
def sf_J1 (f : mx_A → Nat → Int) : Prop := ∀ j k : Nat, (k : Int) < f (.inr (j, 0)) 6 → f (.inr (j, 5)) k < f (.inr (j, 0)) 0 ∧ f (.inr (j, 6)) k < f (.inr (j, 0)) 0
/-- strokes of HEAVY name corners -/
def sf_J2 (f : mx_A → Nat → Int) : Prop := ∀ k : Nat, (k : Int) < f (.inl 60) 1 → f (.inl 61) k = 3 → f (.inl 62) k ≤ 5
/-- acts on corners name corners -/
def sf_J3 (f : mx_A → Nat → Int) : Prop := f (.inl 84) 0 + f (.inl 84) 1 ≤ 40 ∧ ∀ k : Nat, (k : Int) < f (.inl 84) 0 + f (.inl 84) 1 → f (.inl 86) k ≤ 3 → f (.inl 87) k ≤ 5
/-- the draft's number -/
def sf_J4 (f : mx_A → Nat → Int) (R : mx_A → Nat → Option mx_A) (n : Nat) : Prop := ∃ m : Nat, R (.inl 0) 3 = some (.inr (m, 0)) ∧ n = 167 + 9 * m ∧ f (.inl 0) 2 = m ∧ ∀ i j : Nat, R (.inl 3) i = some (.inr (j, 0)) → j < m
/-- the reference: acts name places where they must -/
def sf_K1 (f : mx_A → Nat → Int) : Prop := f (.inl 105) 24 + f (.inl 105) 25 ≤ 40 ∧ ∀ k : Nat, (k : Int) < f (.inl 105) 24 + f (.inl 105) 25 →
    (f (.inl 123) k ≠ 3 ∧ f (.inl 123) k ≠ 4 → f (.inl 124) k < 78) ∧ (f (.inl 123) k = 4 ∨ f (.inl 123) k = 5 → 1 ≤ f (.inl 125) k ∧ 1 ≤ f (.inl 126) k)
/-- corners are heavy -/
def sf_K2 (f : mx_A → Nat → Int) : Prop := ∀ s c : Nat, (s : Int) < f (.inl 105) 1 → (c : Int) < f (.inl 106) s → 1 ≤ f (.inl 107) (6 * s + c)
/-- pieces are stiff -/
def sf_K3 (f : mx_A → Nat → Int) : Prop := ∀ p : Nat, (p : Int) < 36 * f (.inl 105) 1 → 0 < f (.inl 113) p → 1 ≤ f (.inl 111) p
/-- a piece lies both ways -/
def sf_K4 (f : mx_A → Nat → Int) : Prop := ∀ s a b : Nat, (s : Int) < f (.inl 105) 1 → a < 6 → b < 6 → f (.inl 113) (36 * s + 6 * a + b) = f (.inl 113) (36 * s + 6 * b + a)
/-- bodies lie where pieces are -/
def sf_K5 (f : mx_A → Nat → Int) : Prop := ∀ b : Nat, (b : Int) < f (.inl 105) 12 → 0 < f (.inl 117) b → ∃ s x y : Nat, f (.inl 117) b = ((36 * s + 6 * x + y : Nat) : Int) + 1 ∧ (s : Int) < f (.inl 105) 1 ∧ (x : Int) < f (.inl 106) s ∧ (y : Int) < f (.inl 106) s ∧ x ≠ y ∧ f (.inl 113) (36 * s + 6 * x + y) = (b : Int) + 1
def sf_JC (f : mx_A → Nat → Int) (R : mx_A → Nat → Option mx_A) (n : Nat) : Prop := sf_J1 f ∧ sf_J2 f ∧ sf_J3 f ∧ sf_J4 f R n
def sf_JR (f : mx_A → Nat → Int) : Prop := sf_K1 f ∧ sf_K2 f ∧ sf_K3 f ∧ sf_K4 f ∧ sf_K5 f
def sf_J (h : mx_H) : Prop := sf_JC (sf_jf h) h.2.2.2 h.1 ∧ sf_JR (sf_jf h)
def sf_sr (a : mx_A) (i : Nat) : Bool := match a with
  | .inl n => Nat.beq n 3 || (Nat.beq n 85 || (Nat.beq n 92 || (Nat.beq n 0 && Nat.beq i 3)))
  | .inr _ => false
/-- every int keeps its bounds; what lies among the shapes is a shape; what holds between ints -/
def sf_I (h : mx_H) : Prop := (∀ a i, sf_iv (sf_bd a i).1 (sf_bd a i).2 (h.2.1 a i)) ∧ (∀ a i b, sf_sr a i = true → h.2.2.2 a i = some b → ∃ j, b = .inr (j, 0)) ∧ sf_J h
/-- a call wrote no more than what the mask names -/
def sf_E (m : Nat) (h h' : mx_H) : Prop := (∀ a i, m.testBit (sf_rg a i) = false → h'.2.1 a i = h.2.1 a i) ∧ (∀ a i, m.testBit (sf_rr a) = false → h'.2.2.2 a i = h.2.2.2 a i) ∧ (m.testBit 429 = false → h'.1 = h.1)
theorem sf_rd {h : mx_H} {r : Nat} {lo hi : Int} (hI : sf_I h) (a : mx_A) (i : Nat) (e : sf_rg a i = r) (e2 : sf_bR r = (lo, hi)) : sf_iv lo hi (h.2.1 a i) := by
  have p := hI.1 a i
  unfold sf_bd at p
  rw [e, e2] at p
  exact p
theorem sf_rt {h : mx_H} {a : mx_A} {i : Nat} (hI : sf_I h) (e : sf_sr a i = true) : ∀ b, h.2.2.2 a i = some b → ∃ j, b = .inr (j, 0) := fun b hb => hI.2.1 a i b e hb
theorem sf_dn {h : mx_H} (hI : sf_I h) : ¬ h.2.2.2 (.inl 0) 3 = none := fun e => by
  obtain ⟨j, hj, -⟩ := hI.2.2.1.2.2.2
  rw [e] at hj
  cases hj
theorem sf_jf_u {h : mx_H} {a : mx_A} {i : Nat} {v : Int32} (hj : sf_jr (sf_rg a i) = false) : sf_jf (mx_uI h a i v) = sf_jf h := by
  funext b j
  unfold sf_jf
  by_cases q : b = a ∧ j = i
  · rw [q.1, q.2, hj, cond_false, cond_false]
  · rw [show (mx_uI h a i v).2.1 b j = h.2.1 b j from if_neg q]
theorem sf_J_u {h : mx_H} {a : mx_A} {i : Nat} {v : Int32} (hj : sf_jr (sf_rg a i) = false) (hJ : sf_J h) : sf_J (mx_uI h a i v) := by
  unfold sf_J
  rw [sf_jf_u hj]
  exact hJ
theorem sf_uI {h : mx_H} {a : mx_A} {i r : Nat} {v : Int32} {lo hi : Int} (hI : sf_I h) (e : sf_rg a i = r) (p : sf_iv lo hi v) (hc : (decide ((sf_bR r).1 ≤ lo) && (decide (hi ≤ (sf_bR r).2) && !sf_jr r)) = true) : sf_I (mx_uI h a i v) := by
  subst e
  simp only [Bool.and_eq_true, decide_eq_true_eq, Bool.not_eq_true'] at hc
  refine ⟨fun b j => ?_, hI.2.1, sf_J_u hc.2.2 hI.2.2⟩
  by_cases q : b = a ∧ j = i
  · obtain ⟨rfl, rfl⟩ := q
    exact iv_s ⟨Int.le_trans hc.1 p.1, Int.le_trans p.2 hc.2.1⟩
  · exact iv_e (if_neg q) (hI.1 b j)
theorem sf_uL {h : mx_H} {a : mx_A} {i : Nat} {v : Int64} (hI : sf_I h) : sf_I (mx_uL h a i v) := hI
theorem sf_E0 (m : Nat) (h : mx_H) : sf_E m h h := ⟨fun _ _ _ => rfl, fun _ _ _ => rfl, fun _ => rfl⟩
theorem sf_Eu {m : Nat} {h h' : mx_H} {a : mx_A} {i r : Nat} {v : Int32} (e : sf_rg a i = r) (hb : m.testBit r = true) (hE : sf_E m h h') : sf_E m h (mx_uI h' a i v) := by
  subst e
  refine ⟨fun b j hf => ?_, hE.2.1, hE.2.2⟩
  have q : ¬ (b = a ∧ j = i) := fun q => by
    rw [q.1, q.2, hb] at hf
    cases hf
  exact (if_neg q).trans (hE.1 b j hf)
theorem sf_fr {m : Nat} {h h' : mx_H} {a : mx_A} {i r : Nat} (hE : sf_E m h h') (e : sf_rg a i = r) (hb : m.testBit r = false) : h'.2.1 a i = h.2.1 a i := by
  subst e
  exact hE.1 a i hb
theorem sf_EL {m : Nat} {h h' : mx_H} {a : mx_A} {i : Nat} {v : Int64} (hE : sf_E m h h') : sf_E m h (mx_uL h' a i v) := hE
theorem sf_sub {m k r : Nat} (hs : k &&& m = k) (hf : m.testBit r = false) : k.testBit r = false := by
  rw [← hs, Nat.testBit_and, hf, Bool.and_false]
theorem sf_Et {m k : Nat} {h h1 h2 : mx_H} (hs : k &&& m = k) (hE : sf_E m h h1) (hk : sf_E k h1 h2) : sf_E m h h2 :=
  ⟨fun a i hf => (hk.1 a i (sf_sub hs hf)).trans (hE.1 a i hf), fun a i hf => (hk.2.1 a i (sf_sub hs hf)).trans (hE.2.1 a i hf), fun hf => (hk.2.2 (sf_sub hs hf)).trans (hE.2.2 hf)⟩
theorem iv_nar1 (x : Int32) : sf_iv 0 1 (vp_nar .boolean x) := iv_and rfl (by decide +kernel)
theorem iv_nar8 (x : Int32) : sf_iv (-128) 127 (vp_nar .byte x) := iv_i2b x
/-! ===== constants and cells, each shown once ===== -/
theorem ivk_m2000000000 : sf_iv (-2000000000) (-2000000000) (-2000000000 : Int32) := iv_k (n := -2000000000) rfl
theorem ivk_m100 : sf_iv (-100) (-100) (-100 : Int32) := iv_k (n := -100) rfl
theorem ivk_m99 : sf_iv (-99) (-99) (-99 : Int32) := iv_k (n := -99) rfl
theorem ivk_m14 : sf_iv (-14) (-14) (-14 : Int32) := iv_k (n := -14) rfl
theorem ivk_m13 : sf_iv (-13) (-13) (-13 : Int32) := iv_k (n := -13) rfl
theorem ivk_m12 : sf_iv (-12) (-12) (-12 : Int32) := iv_k (n := -12) rfl
theorem ivk_m11 : sf_iv (-11) (-11) (-11 : Int32) := iv_k (n := -11) rfl
theorem ivk_m4 : sf_iv (-4) (-4) (-4 : Int32) := iv_k (n := -4) rfl
theorem ivk_m3 : sf_iv (-3) (-3) (-3 : Int32) := iv_k (n := -3) rfl
theorem ivk_m2 : sf_iv (-2) (-2) (-2 : Int32) := iv_k (n := -2) rfl
theorem ivk_m1 : sf_iv (-1) (-1) (-1 : Int32) := iv_k (n := -1) rfl
theorem ivk_0 : sf_iv (0) (0) (0 : Int32) := iv_k (n := 0) rfl
theorem ivk_1 : sf_iv (1) (1) (1 : Int32) := iv_k (n := 1) rfl
theorem ivk_2 : sf_iv (2) (2) (2 : Int32) := iv_k (n := 2) rfl
theorem ivk_3 : sf_iv (3) (3) (3 : Int32) := iv_k (n := 3) rfl
theorem ivk_4 : sf_iv (4) (4) (4 : Int32) := iv_k (n := 4) rfl
theorem ivk_5 : sf_iv (5) (5) (5 : Int32) := iv_k (n := 5) rfl
theorem ivk_6 : sf_iv (6) (6) (6 : Int32) := iv_k (n := 6) rfl
theorem ivk_7 : sf_iv (7) (7) (7 : Int32) := iv_k (n := 7) rfl
theorem ivk_8 : sf_iv (8) (8) (8 : Int32) := iv_k (n := 8) rfl
theorem ivk_9 : sf_iv (9) (9) (9 : Int32) := iv_k (n := 9) rfl
theorem ivk_10 : sf_iv (10) (10) (10 : Int32) := iv_k (n := 10) rfl
theorem ivk_11 : sf_iv (11) (11) (11 : Int32) := iv_k (n := 11) rfl
theorem ivk_12 : sf_iv (12) (12) (12 : Int32) := iv_k (n := 12) rfl
theorem ivk_13 : sf_iv (13) (13) (13 : Int32) := iv_k (n := 13) rfl
theorem ivk_14 : sf_iv (14) (14) (14 : Int32) := iv_k (n := 14) rfl
theorem ivk_15 : sf_iv (15) (15) (15 : Int32) := iv_k (n := 15) rfl
theorem ivk_16 : sf_iv (16) (16) (16 : Int32) := iv_k (n := 16) rfl
theorem ivk_17 : sf_iv (17) (17) (17 : Int32) := iv_k (n := 17) rfl
theorem ivk_18 : sf_iv (18) (18) (18 : Int32) := iv_k (n := 18) rfl
theorem ivk_19 : sf_iv (19) (19) (19 : Int32) := iv_k (n := 19) rfl
theorem ivk_20 : sf_iv (20) (20) (20 : Int32) := iv_k (n := 20) rfl
theorem ivk_21 : sf_iv (21) (21) (21 : Int32) := iv_k (n := 21) rfl
theorem ivk_22 : sf_iv (22) (22) (22 : Int32) := iv_k (n := 22) rfl
theorem ivk_23 : sf_iv (23) (23) (23 : Int32) := iv_k (n := 23) rfl
theorem ivk_24 : sf_iv (24) (24) (24 : Int32) := iv_k (n := 24) rfl
theorem ivk_30 : sf_iv (30) (30) (30 : Int32) := iv_k (n := 30) rfl
theorem ivk_31 : sf_iv (31) (31) (31 : Int32) := iv_k (n := 31) rfl
theorem ivk_36 : sf_iv (36) (36) (36 : Int32) := iv_k (n := 36) rfl
theorem ivk_39 : sf_iv (39) (39) (39 : Int32) := iv_k (n := 39) rfl
theorem ivk_40 : sf_iv (40) (40) (40 : Int32) := iv_k (n := 40) rfl
theorem ivk_48 : sf_iv (48) (48) (48 : Int32) := iv_k (n := 48) rfl
theorem ivk_49 : sf_iv (49) (49) (49 : Int32) := iv_k (n := 49) rfl
theorem ivk_50 : sf_iv (50) (50) (50 : Int32) := iv_k (n := 50) rfl
theorem ivk_51 : sf_iv (51) (51) (51 : Int32) := iv_k (n := 51) rfl
theorem ivk_57 : sf_iv (57) (57) (57 : Int32) := iv_k (n := 57) rfl
theorem ivk_59 : sf_iv (59) (59) (59 : Int32) := iv_k (n := 59) rfl
theorem ivk_60 : sf_iv (60) (60) (60 : Int32) := iv_k (n := 60) rfl
theorem ivk_61 : sf_iv (61) (61) (61 : Int32) := iv_k (n := 61) rfl
theorem ivk_64 : sf_iv (64) (64) (64 : Int32) := iv_k (n := 64) rfl
theorem ivk_97 : sf_iv (97) (97) (97 : Int32) := iv_k (n := 97) rfl
theorem ivk_99 : sf_iv (99) (99) (99 : Int32) := iv_k (n := 99) rfl
theorem ivk_100 : sf_iv (100) (100) (100 : Int32) := iv_k (n := 100) rfl
theorem ivk_104 : sf_iv (104) (104) (104 : Int32) := iv_k (n := 104) rfl
theorem ivk_112 : sf_iv (112) (112) (112 : Int32) := iv_k (n := 112) rfl
theorem ivk_115 : sf_iv (115) (115) (115 : Int32) := iv_k (n := 115) rfl
theorem ivk_119 : sf_iv (119) (119) (119 : Int32) := iv_k (n := 119) rfl
theorem ivk_120 : sf_iv (120) (120) (120 : Int32) := iv_k (n := 120) rfl
theorem ivk_127 : sf_iv (127) (127) (127 : Int32) := iv_k (n := 127) rfl
theorem ivk_200 : sf_iv (200) (200) (200 : Int32) := iv_k (n := 200) rfl
theorem ivk_500 : sf_iv (500) (500) (500 : Int32) := iv_k (n := 500) rfl
theorem ivk_600 : sf_iv (600) (600) (600 : Int32) := iv_k (n := 600) rfl
theorem ivk_999 : sf_iv (999) (999) (999 : Int32) := iv_k (n := 999) rfl
theorem ivk_9999 : sf_iv (9999) (9999) (9999 : Int32) := iv_k (n := 9999) rfl
theorem ivk_32767 : sf_iv (32767) (32767) (32767 : Int32) := iv_k (n := 32767) rfl
theorem ivk_1999999999 : sf_iv (1999999999) (1999999999) (1999999999 : Int32) := iv_k (n := 1999999999) rfl
theorem ivk_2147483647 : sf_iv (2147483647) (2147483647) (2147483647 : Int32) := iv_k (n := 2147483647) rfl
theorem ivt_0 : (0 : Int32).toInt = 0 := rfl
theorem ivt_1 : (1 : Int32).toInt = 1 := rfl
theorem ivt_2 : (2 : Int32).toInt = 2 := rfl
theorem ivt_3 : (3 : Int32).toInt = 3 := rfl
theorem ivt_4 : (4 : Int32).toInt = 4 := rfl
theorem ivt_5 : (5 : Int32).toInt = 5 := rfl
theorem ivt_6 : (6 : Int32).toInt = 6 := rfl
theorem ivt_7 : (7 : Int32).toInt = 7 := rfl
theorem ivt_9 : (9 : Int32).toInt = 9 := rfl
theorem ivt_10 : (10 : Int32).toInt = 10 := rfl
theorem ivt_12 : (12 : Int32).toInt = 12 := rfl
theorem ivt_15 : (15 : Int32).toInt = 15 := rfl
theorem ivt_24 : (24 : Int32).toInt = 24 := rfl
theorem ivt_39 : (39 : Int32).toInt = 39 := rfl
theorem ivt_40 : (40 : Int32).toInt = 40 := rfl
theorem ivt_49 : (49 : Int32).toInt = 49 := rfl
theorem ivt_57 : (57 : Int32).toInt = 57 := rfl
theorem ivt_59 : (59 : Int32).toInt = 59 := rfl
theorem ivt_60 : (60 : Int32).toInt = 60 := rfl
theorem ivt_64 : (64 : Int32).toInt = 64 := rfl
theorem ivt_99 : (99 : Int32).toInt = 99 := rfl
theorem ivt_100 : (100 : Int32).toInt = 100 := rfl
theorem ivt_104 : (104 : Int32).toInt = 104 := rfl
theorem ivt_112 : (112 : Int32).toInt = 112 := rfl
theorem ivt_115 : (115 : Int32).toInt = 115 := rfl
theorem ivt_119 : (119 : Int32).toInt = 119 := rfl
theorem ivt_120 : (120 : Int32).toInt = 120 := rfl
theorem ivt_200 : (200 : Int32).toInt = 200 := rfl
theorem ivt_256 : (256 : Int32).toInt = 256 := rfl
theorem ivt_500 : (500 : Int32).toInt = 500 := rfl
theorem srd_136_60_0 {h : mx_H} (hI : sf_I h) : sf_iv (0) (11) (h.2.1 (.inl 60) 0) := sf_rd (r := 136) hI (.inl 60) 0 rfl rfl
theorem srd_137_60_1 {h : mx_H} (hI : sf_I h) : sf_iv (0) (6) (h.2.1 (.inl 60) 1) := sf_rd (r := 137) hI (.inl 60) 1 rfl rfl
theorem srd_141_60_5 {h : mx_H} (hI : sf_I h) : sf_iv (0) (6) (h.2.1 (.inl 60) 5) := sf_rd (r := 141) hI (.inl 60) 5 rfl rfl
theorem srd_146_60_10 {h : mx_H} (hI : sf_I h) : sf_iv (-2147483648) (2147483647) (h.2.1 (.inl 60) 10) := sf_rd (r := 146) hI (.inl 60) 10 rfl rfl
theorem srd_147_60_11 {h : mx_H} (hI : sf_I h) : sf_iv (0) (4) (h.2.1 (.inl 60) 11) := sf_rd (r := 147) hI (.inl 60) 11 rfl rfl
theorem srd_148_60_12 {h : mx_H} (hI : sf_I h) : sf_iv (-2147483648) (2147483647) (h.2.1 (.inl 60) 12) := sf_rd (r := 148) hI (.inl 60) 12 rfl rfl
theorem srd_149_61_x {h : mx_H} (hI : sf_I h) (i : Nat) : sf_iv (0) (4) (h.2.1 (.inl 61) i) := sf_rd (r := 149) hI (.inl 61) i rfl rfl
theorem srd_150_62_x {h : mx_H} (hI : sf_I h) (i : Nat) : sf_iv (0) (14) (h.2.1 (.inl 62) i) := sf_rd (r := 150) hI (.inl 62) i rfl rfl
theorem srd_151_63_x {h : mx_H} (hI : sf_I h) (i : Nat) : sf_iv (0) (3) (h.2.1 (.inl 63) i) := sf_rd (r := 151) hI (.inl 63) i rfl rfl
theorem srd_152_64_x {h : mx_H} (hI : sf_I h) (i : Nat) : sf_iv (0) (5) (h.2.1 (.inl 64) i) := sf_rd (r := 152) hI (.inl 64) i rfl rfl
theorem srd_153_65_x {h : mx_H} (hI : sf_I h) (i : Nat) : sf_iv (0) (9) (h.2.1 (.inl 65) i) := sf_rd (r := 153) hI (.inl 65) i rfl rfl
theorem srd_155_67_x {h : mx_H} (hI : sf_I h) (i : Nat) : sf_iv (-2147483648) (2147483647) (h.2.1 (.inl 67) i) := sf_rd (r := 155) hI (.inl 67) i rfl rfl
theorem srd_156_68_0 {h : mx_H} (hI : sf_I h) : sf_iv (0) (6) (h.2.1 (.inl 68) 0) := sf_rd (r := 156) hI (.inl 68) 0 rfl rfl
theorem srd_158_68_2 {h : mx_H} (hI : sf_I h) : sf_iv (-2147483648) (2147483647) (h.2.1 (.inl 68) 2) := sf_rd (r := 158) hI (.inl 68) 2 rfl rfl
theorem srd_159_68_3 {h : mx_H} (hI : sf_I h) : sf_iv (-1) (14) (h.2.1 (.inl 68) 3) := sf_rd (r := 159) hI (.inl 68) 3 rfl rfl
theorem srd_15_1_1 {h : mx_H} (hI : sf_I h) : sf_iv (0) (120) (h.2.1 (.inl 1) 1) := sf_rd (r := 15) hI (.inl 1) 1 rfl rfl
theorem srd_160_68_4 {h : mx_H} (hI : sf_I h) : sf_iv (0) (9) (h.2.1 (.inl 68) 4) := sf_rd (r := 160) hI (.inl 68) 4 rfl rfl
theorem srd_163_70_x {h : mx_H} (hI : sf_I h) (i : Nat) : sf_iv (-2147483648) (2147483647) (h.2.1 (.inl 70) i) := sf_rd (r := 163) hI (.inl 70) i rfl rfl
theorem srd_164_71_0 {h : mx_H} (hI : sf_I h) : sf_iv (0) (500) (h.2.1 (.inl 71) 0) := sf_rd (r := 164) hI (.inl 71) 0 rfl rfl
theorem srd_166_71_2 {h : mx_H} (hI : sf_I h) : sf_iv (0) (200) (h.2.1 (.inl 71) 2) := sf_rd (r := 166) hI (.inl 71) 2 rfl rfl
theorem srd_16_1_2 {h : mx_H} (hI : sf_I h) : sf_iv (0) (120) (h.2.1 (.inl 1) 2) := sf_rd (r := 16) hI (.inl 1) 2 rfl rfl
theorem srd_171_71_7 {h : mx_H} (hI : sf_I h) : sf_iv (0) (6) (h.2.1 (.inl 71) 7) := sf_rd (r := 171) hI (.inl 71) 7 rfl rfl
theorem srd_175_72_x {h : mx_H} (hI : sf_I h) (i : Nat) : sf_iv (-1) (5) (h.2.1 (.inl 72) i) := sf_rd (r := 175) hI (.inl 72) i rfl rfl
theorem srd_176_73_x {h : mx_H} (hI : sf_I h) (i : Nat) : sf_iv (-1) (5) (h.2.1 (.inl 73) i) := sf_rd (r := 176) hI (.inl 73) i rfl rfl
theorem srd_177_74_x {h : mx_H} (hI : sf_I h) (i : Nat) : sf_iv (-2147483648) (2147483647) (h.2.1 (.inl 74) i) := sf_rd (r := 177) hI (.inl 74) i rfl rfl
theorem srd_178_75_x {h : mx_H} (hI : sf_I h) (i : Nat) : sf_iv (-2147483648) (2147483647) (h.2.1 (.inl 75) i) := sf_rd (r := 178) hI (.inl 75) i rfl rfl
theorem srd_17_2_x {h : mx_H} (hI : sf_I h) (i : Nat) : sf_iv (0) (255) (h.2.1 (.inl 2) i) := sf_rd (r := 17) hI (.inl 2) i rfl rfl
theorem srd_180_77_x {h : mx_H} (hI : sf_I h) (i : Nat) : sf_iv (0) (5) (h.2.1 (.inl 77) i) := sf_rd (r := 180) hI (.inl 77) i rfl rfl
theorem srd_181_78_x {h : mx_H} (hI : sf_I h) (i : Nat) : sf_iv (-99) (99) (h.2.1 (.inl 78) i) := sf_rd (r := 181) hI (.inl 78) i rfl rfl
theorem srd_182_79_x {h : mx_H} (hI : sf_I h) (i : Nat) : sf_iv (0) (99) (h.2.1 (.inl 79) i) := sf_rd (r := 182) hI (.inl 79) i rfl rfl
theorem srd_183_80_0 {h : mx_H} (hI : sf_I h) : sf_iv (0) (6) (h.2.1 (.inl 80) 0) := sf_rd (r := 183) hI (.inl 80) 0 rfl rfl
theorem srd_190_84_0 {h : mx_H} (hI : sf_I h) : sf_iv (0) (40) (h.2.1 (.inl 84) 0) := sf_rd (r := 190) hI (.inl 84) 0 rfl rfl
theorem srd_191_84_1 {h : mx_H} (hI : sf_I h) : sf_iv (0) (40) (h.2.1 (.inl 84) 1) := sf_rd (r := 191) hI (.inl 84) 1 rfl rfl
theorem srd_198_86_x {h : mx_H} (hI : sf_I h) (i : Nat) : sf_iv (0) (4) (h.2.1 (.inl 86) i) := sf_rd (r := 198) hI (.inl 86) i rfl rfl
theorem srd_199_87_x {h : mx_H} (hI : sf_I h) (i : Nat) : sf_iv (0) (14) (h.2.1 (.inl 87) i) := sf_rd (r := 199) hI (.inl 87) i rfl rfl
theorem srd_200_88_x {h : mx_H} (hI : sf_I h) (i : Nat) : sf_iv (0) (99) (h.2.1 (.inl 88) i) := sf_rd (r := 200) hI (.inl 88) i rfl rfl
theorem srd_201_89_x {h : mx_H} (hI : sf_I h) (i : Nat) : sf_iv (0) (99) (h.2.1 (.inl 89) i) := sf_rd (r := 201) hI (.inl 89) i rfl rfl
theorem srd_202_90_0 {h : mx_H} (hI : sf_I h) : sf_iv (0) (200) (h.2.1 (.inl 90) 0) := sf_rd (r := 202) hI (.inl 90) 0 rfl rfl
theorem srd_205_90_3 {h : mx_H} (hI : sf_I h) : sf_iv (0) (1000) (h.2.1 (.inl 90) 3) := sf_rd (r := 205) hI (.inl 90) 3 rfl rfl
theorem srd_207_91_x {h : mx_H} (hI : sf_I h) (i : Nat) : sf_iv (0) (5) (h.2.1 (.inl 91) i) := sf_rd (r := 207) hI (.inl 91) i rfl rfl
theorem srd_209_93_x {h : mx_H} (hI : sf_I h) (i : Nat) : sf_iv (0) (63) (h.2.1 (.inl 93) i) := sf_rd (r := 209) hI (.inl 93) i rfl rfl
theorem srd_214_95_x {h : mx_H} (hI : sf_I h) (i : Nat) : sf_iv (-2) (4) (h.2.1 (.inl 95) i) := sf_rd (r := 214) hI (.inl 95) i rfl rfl
theorem srd_215_96_x {h : mx_H} (hI : sf_I h) (i : Nat) : sf_iv (0) (60) (h.2.1 (.inl 96) i) := sf_rd (r := 215) hI (.inl 96) i rfl rfl
theorem srd_216_97_x {h : mx_H} (hI : sf_I h) (i : Nat) : sf_iv (0) (199) (h.2.1 (.inl 97) i) := sf_rd (r := 216) hI (.inl 97) i rfl rfl
theorem srd_225_105_1 {h : mx_H} (hI : sf_I h) : sf_iv (0) (12) (h.2.1 (.inl 105) 1) := sf_rd (r := 225) hI (.inl 105) 1 rfl rfl
theorem srd_236_105_12 {h : mx_H} (hI : sf_I h) : sf_iv (0) (200) (h.2.1 (.inl 105) 12) := sf_rd (r := 236) hI (.inl 105) 12 rfl rfl
theorem srd_240_105_16 {h : mx_H} (hI : sf_I h) : sf_iv (0) (120) (h.2.1 (.inl 105) 16) := sf_rd (r := 240) hI (.inl 105) 16 rfl rfl
theorem srd_241_105_17 {h : mx_H} (hI : sf_I h) : sf_iv (0) (120) (h.2.1 (.inl 105) 17) := sf_rd (r := 241) hI (.inl 105) 17 rfl rfl
theorem srd_242_105_18 {h : mx_H} (hI : sf_I h) : sf_iv (-1) (120) (h.2.1 (.inl 105) 18) := sf_rd (r := 242) hI (.inl 105) 18 rfl rfl
theorem srd_243_105_19 {h : mx_H} (hI : sf_I h) : sf_iv (0) (15) (h.2.1 (.inl 105) 19) := sf_rd (r := 243) hI (.inl 105) 19 rfl rfl
theorem srd_248_105_24 {h : mx_H} (hI : sf_I h) : sf_iv (0) (40) (h.2.1 (.inl 105) 24) := sf_rd (r := 248) hI (.inl 105) 24 rfl rfl
theorem srd_249_105_25 {h : mx_H} (hI : sf_I h) : sf_iv (0) (40) (h.2.1 (.inl 105) 25) := sf_rd (r := 249) hI (.inl 105) 25 rfl rfl
theorem srd_259_105_35 {h : mx_H} (hI : sf_I h) : sf_iv (0) (6) (h.2.1 (.inl 105) 35) := sf_rd (r := 259) hI (.inl 105) 35 rfl rfl
theorem srd_261_105_37 {h : mx_H} (hI : sf_I h) : sf_iv (0) (6) (h.2.1 (.inl 105) 37) := sf_rd (r := 261) hI (.inl 105) 37 rfl rfl
theorem srd_266_105_42 {h : mx_H} (hI : sf_I h) : sf_iv (-2147483648) (2147483647) (h.2.1 (.inl 105) 42) := sf_rd (r := 266) hI (.inl 105) 42 rfl rfl
theorem srd_270_105_46 {h : mx_H} (hI : sf_I h) : sf_iv (-2147483648) (2147483647) (h.2.1 (.inl 105) 46) := sf_rd (r := 270) hI (.inl 105) 46 rfl rfl
theorem srd_271_105_47 {h : mx_H} (hI : sf_I h) : sf_iv (-2147483648) (2147483647) (h.2.1 (.inl 105) 47) := sf_rd (r := 271) hI (.inl 105) 47 rfl rfl
theorem srd_272_105_48 {h : mx_H} (hI : sf_I h) : sf_iv (0) (5) (h.2.1 (.inl 105) 48) := sf_rd (r := 272) hI (.inl 105) 48 rfl rfl
theorem srd_274_105_50 {h : mx_H} (hI : sf_I h) : sf_iv (-2147483648) (2147483647) (h.2.1 (.inl 105) 50) := sf_rd (r := 274) hI (.inl 105) 50 rfl rfl
theorem srd_275_105_51 {h : mx_H} (hI : sf_I h) : sf_iv (0) (6) (h.2.1 (.inl 105) 51) := sf_rd (r := 275) hI (.inl 105) 51 rfl rfl
theorem srd_276_105_52 {h : mx_H} (hI : sf_I h) : sf_iv (0) (11) (h.2.1 (.inl 105) 52) := sf_rd (r := 276) hI (.inl 105) 52 rfl rfl
theorem srd_280_105_56 {h : mx_H} (hI : sf_I h) : sf_iv (0) (6) (h.2.1 (.inl 105) 56) := sf_rd (r := 280) hI (.inl 105) 56 rfl rfl
theorem srd_285_105_61 {h : mx_H} (hI : sf_I h) : sf_iv (-1) (4) (h.2.1 (.inl 105) 61) := sf_rd (r := 285) hI (.inl 105) 61 rfl rfl
theorem srd_286_105_62 {h : mx_H} (hI : sf_I h) : sf_iv (-2147483648) (2147483647) (h.2.1 (.inl 105) 62) := sf_rd (r := 286) hI (.inl 105) 62 rfl rfl
theorem srd_287_105_63 {h : mx_H} (hI : sf_I h) : sf_iv (-1) (2147483647) (h.2.1 (.inl 105) 63) := sf_rd (r := 287) hI (.inl 105) 63 rfl rfl
theorem srd_288_105_64 {h : mx_H} (hI : sf_I h) : sf_iv (0) (4) (h.2.1 (.inl 105) 64) := sf_rd (r := 288) hI (.inl 105) 64 rfl rfl
theorem srd_289_105_65 {h : mx_H} (hI : sf_I h) : sf_iv (0) (6) (h.2.1 (.inl 105) 65) := sf_rd (r := 289) hI (.inl 105) 65 rfl rfl
theorem srd_291_105_67 {h : mx_H} (hI : sf_I h) : sf_iv (-2147483648) (2147483647) (h.2.1 (.inl 105) 67) := sf_rd (r := 291) hI (.inl 105) 67 rfl rfl
theorem srd_292_105_68 {h : mx_H} (hI : sf_I h) : sf_iv (-1) (199) (h.2.1 (.inl 105) 68) := sf_rd (r := 292) hI (.inl 105) 68 rfl rfl
theorem srd_293_105_69 {h : mx_H} (hI : sf_I h) : sf_iv (0) (9) (h.2.1 (.inl 105) 69) := sf_rd (r := 293) hI (.inl 105) 69 rfl rfl
theorem srd_295_105_71 {h : mx_H} (hI : sf_I h) : sf_iv (0) (500) (h.2.1 (.inl 105) 71) := sf_rd (r := 295) hI (.inl 105) 71 rfl rfl
theorem srd_298_105_74 {h : mx_H} (hI : sf_I h) : sf_iv (0) (200) (h.2.1 (.inl 105) 74) := sf_rd (r := 298) hI (.inl 105) 74 rfl rfl
theorem srd_2_0_2 {h : mx_H} (hI : sf_I h) : sf_iv (0) (12) (h.2.1 (.inl 0) 2) := sf_rd (r := 2) hI (.inl 0) 2 rfl rfl
theorem srd_303_105_79 {h : mx_H} (hI : sf_I h) : sf_iv (0) (6) (h.2.1 (.inl 105) 79) := sf_rd (r := 303) hI (.inl 105) 79 rfl rfl
theorem srd_307_105_83 {h : mx_H} (hI : sf_I h) : sf_iv (0) (6) (h.2.1 (.inl 105) 83) := sf_rd (r := 307) hI (.inl 105) 83 rfl rfl
theorem srd_312_105_88 {h : mx_H} (hI : sf_I h) : sf_iv (0) (1000) (h.2.1 (.inl 105) 88) := sf_rd (r := 312) hI (.inl 105) 88 rfl rfl
theorem srd_318_106_x {h : mx_H} (hI : sf_I h) (i : Nat) : sf_iv (0) (6) (h.2.1 (.inl 106) i) := sf_rd (r := 318) hI (.inl 106) i rfl rfl
theorem srd_319_107_x {h : mx_H} (hI : sf_I h) (i : Nat) : sf_iv (0) (9) (h.2.1 (.inl 107) i) := sf_rd (r := 319) hI (.inl 107) i rfl rfl
theorem srd_320_108_x {h : mx_H} (hI : sf_I h) (i : Nat) : sf_iv (0) (9) (h.2.1 (.inl 108) i) := sf_rd (r := 320) hI (.inl 108) i rfl rfl
theorem srd_321_109_x {h : mx_H} (hI : sf_I h) (i : Nat) : sf_iv (0) (9) (h.2.1 (.inl 109) i) := sf_rd (r := 321) hI (.inl 109) i rfl rfl
theorem srd_322_110_x {h : mx_H} (hI : sf_I h) (i : Nat) : sf_iv (0) (1) (h.2.1 (.inl 110) i) := sf_rd (r := 322) hI (.inl 110) i rfl rfl
theorem srd_323_111_x {h : mx_H} (hI : sf_I h) (i : Nat) : sf_iv (0) (9) (h.2.1 (.inl 111) i) := sf_rd (r := 323) hI (.inl 111) i rfl rfl
theorem srd_324_112_x {h : mx_H} (hI : sf_I h) (i : Nat) : sf_iv (0) (9) (h.2.1 (.inl 112) i) := sf_rd (r := 324) hI (.inl 112) i rfl rfl
theorem srd_325_113_x {h : mx_H} (hI : sf_I h) (i : Nat) : sf_iv (0) (201) (h.2.1 (.inl 113) i) := sf_rd (r := 325) hI (.inl 113) i rfl rfl
theorem srd_326_114_x {h : mx_H} (hI : sf_I h) (i : Nat) : sf_iv (-1) (11) (h.2.1 (.inl 114) i) := sf_rd (r := 326) hI (.inl 114) i rfl rfl
theorem srd_327_115_x {h : mx_H} (hI : sf_I h) (i : Nat) : sf_iv (0) (11) (h.2.1 (.inl 115) i) := sf_rd (r := 327) hI (.inl 115) i rfl rfl
theorem srd_328_116_x {h : mx_H} (hI : sf_I h) (i : Nat) : sf_iv (0) (5) (h.2.1 (.inl 116) i) := sf_rd (r := 328) hI (.inl 116) i rfl rfl
theorem srd_329_117_x {h : mx_H} (hI : sf_I h) (i : Nat) : sf_iv (0) (468) (h.2.1 (.inl 117) i) := sf_rd (r := 329) hI (.inl 117) i rfl rfl
theorem srd_330_118_x {h : mx_H} (hI : sf_I h) (i : Nat) : sf_iv (-128) (127) (h.2.1 (.inl 118) i) := sf_rd (r := 330) hI (.inl 118) i rfl rfl
theorem srd_333_121_x {h : mx_H} (hI : sf_I h) (i : Nat) : sf_iv (0) (1) (h.2.1 (.inl 121) i) := sf_rd (r := 333) hI (.inl 121) i rfl rfl
theorem srd_334_122_x {h : mx_H} (hI : sf_I h) (i : Nat) : sf_iv (0) (1) (h.2.1 (.inl 122) i) := sf_rd (r := 334) hI (.inl 122) i rfl rfl
theorem srd_335_123_x {h : mx_H} (hI : sf_I h) (i : Nat) : sf_iv (0) (5) (h.2.1 (.inl 123) i) := sf_rd (r := 335) hI (.inl 123) i rfl rfl
theorem srd_336_124_x {h : mx_H} (hI : sf_I h) (i : Nat) : sf_iv (0) (467) (h.2.1 (.inl 124) i) := sf_rd (r := 336) hI (.inl 124) i rfl rfl
theorem srd_337_125_x {h : mx_H} (hI : sf_I h) (i : Nat) : sf_iv (0) (9) (h.2.1 (.inl 125) i) := sf_rd (r := 337) hI (.inl 125) i rfl rfl
theorem srd_338_126_x {h : mx_H} (hI : sf_I h) (i : Nat) : sf_iv (0) (9) (h.2.1 (.inl 126) i) := sf_rd (r := 338) hI (.inl 126) i rfl rfl
theorem srd_339_127_x {h : mx_H} (hI : sf_I h) (i : Nat) : sf_iv (0) (9) (h.2.1 (.inl 127) i) := sf_rd (r := 339) hI (.inl 127) i rfl rfl
theorem srd_341_129_x {h : mx_H} (hI : sf_I h) (i : Nat) : sf_iv (-2147483648) (2147483647) (h.2.1 (.inl 129) i) := sf_rd (r := 341) hI (.inl 129) i rfl rfl
theorem srd_342_130_x {h : mx_H} (hI : sf_I h) (i : Nat) : sf_iv (0) (1) (h.2.1 (.inl 130) i) := sf_rd (r := 342) hI (.inl 130) i rfl rfl
theorem srd_343_131_x {h : mx_H} (hI : sf_I h) (i : Nat) : sf_iv (-2147483648) (2147483647) (h.2.1 (.inl 131) i) := sf_rd (r := 343) hI (.inl 131) i rfl rfl
theorem srd_346_134_x {h : mx_H} (hI : sf_I h) (i : Nat) : sf_iv (0) (5) (h.2.1 (.inl 134) i) := sf_rd (r := 346) hI (.inl 134) i rfl rfl
theorem srd_349_137_x {h : mx_H} (hI : sf_I h) (i : Nat) : sf_iv (-2147483648) (2147483647) (h.2.1 (.inl 137) i) := sf_rd (r := 349) hI (.inl 137) i rfl rfl
theorem srd_351_139_x {h : mx_H} (hI : sf_I h) (i : Nat) : sf_iv (0) (5) (h.2.1 (.inl 139) i) := sf_rd (r := 351) hI (.inl 139) i rfl rfl
theorem srd_352_140_x {h : mx_H} (hI : sf_I h) (i : Nat) : sf_iv (0) (5) (h.2.1 (.inl 140) i) := sf_rd (r := 352) hI (.inl 140) i rfl rfl
theorem srd_353_141_x {h : mx_H} (hI : sf_I h) (i : Nat) : sf_iv (-1) (5) (h.2.1 (.inl 141) i) := sf_rd (r := 353) hI (.inl 141) i rfl rfl
theorem srd_354_142_x {h : mx_H} (hI : sf_I h) (i : Nat) : sf_iv (0) (3) (h.2.1 (.inl 142) i) := sf_rd (r := 354) hI (.inl 142) i rfl rfl
theorem srd_355_143_x {h : mx_H} (hI : sf_I h) (i : Nat) : sf_iv (0) (5) (h.2.1 (.inl 143) i) := sf_rd (r := 355) hI (.inl 143) i rfl rfl
theorem srd_356_144_x {h : mx_H} (hI : sf_I h) (i : Nat) : sf_iv (0) (9) (h.2.1 (.inl 144) i) := sf_rd (r := 356) hI (.inl 144) i rfl rfl
theorem srd_358_146_x {h : mx_H} (hI : sf_I h) (i : Nat) : sf_iv (0) (3) (h.2.1 (.inl 146) i) := sf_rd (r := 358) hI (.inl 146) i rfl rfl
theorem srd_360_148_x {h : mx_H} (hI : sf_I h) (i : Nat) : sf_iv (-2147483648) (2147483647) (h.2.1 (.inl 148) i) := sf_rd (r := 360) hI (.inl 148) i rfl rfl
theorem srd_361_149_x {h : mx_H} (hI : sf_I h) (i : Nat) : sf_iv (-1) (5) (h.2.1 (.inl 149) i) := sf_rd (r := 361) hI (.inl 149) i rfl rfl
theorem srd_362_150_x {h : mx_H} (hI : sf_I h) (i : Nat) : sf_iv (-1) (5) (h.2.1 (.inl 150) i) := sf_rd (r := 362) hI (.inl 150) i rfl rfl
theorem srd_363_151_x {h : mx_H} (hI : sf_I h) (i : Nat) : sf_iv (-2147483648) (2147483647) (h.2.1 (.inl 151) i) := sf_rd (r := 363) hI (.inl 151) i rfl rfl
theorem srd_366_154_x {h : mx_H} (hI : sf_I h) (i : Nat) : sf_iv (-2147483648) (2147483647) (h.2.1 (.inl 154) i) := sf_rd (r := 366) hI (.inl 154) i rfl rfl
theorem srd_367_155_x {h : mx_H} (hI : sf_I h) (i : Nat) : sf_iv (0) (5) (h.2.1 (.inl 155) i) := sf_rd (r := 367) hI (.inl 155) i rfl rfl
theorem srd_369_157_x {h : mx_H} (hI : sf_I h) (i : Nat) : sf_iv (0) (99) (h.2.1 (.inl 157) i) := sf_rd (r := 369) hI (.inl 157) i rfl rfl
theorem srd_372_160_x {h : mx_H} (hI : sf_I h) (i : Nat) : sf_iv (0) (11) (h.2.1 (.inl 160) i) := sf_rd (r := 372) hI (.inl 160) i rfl rfl
theorem srd_374_162_x {h : mx_H} (hI : sf_I h) (i : Nat) : sf_iv (0) (63) (h.2.1 (.inl 162) i) := sf_rd (r := 374) hI (.inl 162) i rfl rfl
theorem srd_375_163_x {h : mx_H} (hI : sf_I h) (i : Nat) : sf_iv (-6) (199) (h.2.1 (.inl 163) i) := sf_rd (r := 375) hI (.inl 163) i rfl rfl
theorem srd_376_164_x {h : mx_H} (hI : sf_I h) (i : Nat) : sf_iv (0) (60) (h.2.1 (.inl 164) i) := sf_rd (r := 376) hI (.inl 164) i rfl rfl
theorem srd_379_s_0_0 {h : mx_H} {q : Nat} (hI : sf_I h) : sf_iv (0) (6) (h.2.1 (.inr (q, 0)) 0) := sf_rd (r := 379) hI (.inr (q, 0)) 0 rfl rfl
theorem srd_384_s_0_5 {h : mx_H} {q : Nat} (hI : sf_I h) : sf_iv (0) (200) (h.2.1 (.inr (q, 0)) 5) := sf_rd (r := 384) hI (.inr (q, 0)) 5 rfl rfl
theorem srd_385_s_0_6 {h : mx_H} {q : Nat} (hI : sf_I h) : sf_iv (0) (15) (h.2.1 (.inr (q, 0)) 6) := sf_rd (r := 385) hI (.inr (q, 0)) 6 rfl rfl
theorem srd_390_s_0_11 {h : mx_H} {q : Nat} (hI : sf_I h) : sf_iv (-1) (11) (h.2.1 (.inr (q, 0)) 11) := sf_rd (r := 390) hI (.inr (q, 0)) 11 rfl rfl
theorem srd_391_s_0_12 {h : mx_H} {q : Nat} (hI : sf_I h) : sf_iv (-1) (11) (h.2.1 (.inr (q, 0)) 12) := sf_rd (r := 391) hI (.inr (q, 0)) 12 rfl rfl
theorem srd_392_s_1_x {h : mx_H} {q : Nat} (hI : sf_I h) (i : Nat) : sf_iv (0) (99) (h.2.1 (.inr (q, 1)) i) := sf_rd (r := 392) hI (.inr (q, 1)) i rfl rfl
theorem srd_393_s_2_x {h : mx_H} {q : Nat} (hI : sf_I h) (i : Nat) : sf_iv (0) (99) (h.2.1 (.inr (q, 2)) i) := sf_rd (r := 393) hI (.inr (q, 2)) i rfl rfl
theorem srd_394_s_3_x {h : mx_H} {q : Nat} (hI : sf_I h) (i : Nat) : sf_iv (0) (99) (h.2.1 (.inr (q, 3)) i) := sf_rd (r := 394) hI (.inr (q, 3)) i rfl rfl
theorem srd_395_s_4_x {h : mx_H} {q : Nat} (hI : sf_I h) (i : Nat) : sf_iv (0) (99) (h.2.1 (.inr (q, 4)) i) := sf_rd (r := 395) hI (.inr (q, 4)) i rfl rfl
theorem srd_396_s_5_x {h : mx_H} {q : Nat} (hI : sf_I h) (i : Nat) : sf_iv (0) (5) (h.2.1 (.inr (q, 5)) i) := sf_rd (r := 396) hI (.inr (q, 5)) i rfl rfl
theorem srd_397_s_6_x {h : mx_H} {q : Nat} (hI : sf_I h) (i : Nat) : sf_iv (0) (5) (h.2.1 (.inr (q, 6)) i) := sf_rd (r := 397) hI (.inr (q, 6)) i rfl rfl
theorem srd_398_s_7_x {h : mx_H} {q : Nat} (hI : sf_I h) (i : Nat) : sf_iv (0) (9) (h.2.1 (.inr (q, 7)) i) := sf_rd (r := 398) hI (.inr (q, 7)) i rfl rfl
theorem srd_399_s_8_x {h : mx_H} {q : Nat} (hI : sf_I h) (i : Nat) : sf_iv (0) (9) (h.2.1 (.inr (q, 8)) i) := sf_rd (r := 399) hI (.inr (q, 8)) i rfl rfl
theorem srd_400_s_30_0 {h : mx_H} {q : Nat} (hI : sf_I h) : sf_iv (0) (6) (h.2.1 (.inr (q, 30)) 0) := sf_rd (r := 400) hI (.inr (q, 30)) 0 rfl rfl
theorem srd_407_s_30_7 {h : mx_H} {q : Nat} (hI : sf_I h) : sf_iv (0) (6) (h.2.1 (.inr (q, 30)) 7) := sf_rd (r := 407) hI (.inr (q, 30)) 7 rfl rfl
theorem srd_412_s_31_x {h : mx_H} {q : Nat} (hI : sf_I h) (i : Nat) : sf_iv (-2147483648) (2147483647) (h.2.1 (.inr (q, 31)) i) := sf_rd (r := 412) hI (.inr (q, 31)) i rfl rfl
theorem srd_413_s_32_x {h : mx_H} {q : Nat} (hI : sf_I h) (i : Nat) : sf_iv (-2147483648) (2147483647) (h.2.1 (.inr (q, 32)) i) := sf_rd (r := 413) hI (.inr (q, 32)) i rfl rfl
theorem srd_414_s_33_x {h : mx_H} {q : Nat} (hI : sf_I h) (i : Nat) : sf_iv (-2147483648) (2147483647) (h.2.1 (.inr (q, 33)) i) := sf_rd (r := 414) hI (.inr (q, 33)) i rfl rfl
theorem srd_415_s_34_x {h : mx_H} {q : Nat} (hI : sf_I h) (i : Nat) : sf_iv (-2147483648) (2147483647) (h.2.1 (.inr (q, 34)) i) := sf_rd (r := 415) hI (.inr (q, 34)) i rfl rfl
theorem srd_417_s_36_x {h : mx_H} {q : Nat} (hI : sf_I h) (i : Nat) : sf_iv (0) (5) (h.2.1 (.inr (q, 36)) i) := sf_rd (r := 417) hI (.inr (q, 36)) i rfl rfl
theorem srd_84_35_0 {h : mx_H} (hI : sf_I h) : sf_iv (-2147483648) (2147483647) (h.2.1 (.inl 35) 0) := sf_rd (r := 84) hI (.inl 35) 0 rfl rfl
theorem srd_85_35_1 {h : mx_H} (hI : sf_I h) : sf_iv (-2147483648) (2147483647) (h.2.1 (.inl 35) 1) := sf_rd (r := 85) hI (.inl 35) 1 rfl rfl
theorem srd_90_36_x {h : mx_H} (hI : sf_I h) (i : Nat) : sf_iv (-2147483648) (2147483647) (h.2.1 (.inl 36) i) := sf_rd (r := 90) hI (.inl 36) i rfl rfl
theorem srd_91_37_x {h : mx_H} (hI : sf_I h) (i : Nat) : sf_iv (0) (5) (h.2.1 (.inl 37) i) := sf_rd (r := 91) hI (.inl 37) i rfl rfl
/-! ===== Arrays.fill; TONES: bounds kept ===== -/
theorem sf_fi {h : mx_H} {a : mx_A} {v : Int32} {r : Nat} {lo hi : Int} (hI : sf_I h) (hr : ∀ i, sf_rg a i = r) (p : sf_iv lo hi v) (hc : (decide ((sf_bR r).1 ≤ lo) && (decide (hi ≤ (sf_bR r).2) && !sf_jr r)) = true) : ∀ n, sf_I (sp_fi h a v n)
  | 0 => by
    rw [sp_fi_0]
    exact hI
  | n + 1 => by
    rw [← sp_fi_s]
    exact sf_uI (sf_fi hI hr p hc n) (hr n) p hc
theorem sf_fiE {h : mx_H} {a : mx_A} {v : Int32} {m r : Nat} (hr : ∀ i, sf_rg a i = r) (hb : m.testBit r = true) : ∀ n, sf_E m h (sp_fi h a v n)
  | 0 => by
    rw [sp_fi_0]
    exact sf_E0 _ _
  | n + 1 => by
    rw [← sp_fi_s]
    exact sf_Eu (hr n) hb (sf_fiE hr hb n)
section SFF
variable {E : mx_Ev} {d : Nat} {h : mx_H} {Q : Option mx_V → mx_H → Prop}
theorem sf_fill {a : mx_A} {v : Int32} {N m r : Nat} {lo hi : Int} (ha : mx_lo a = (100, N)) (hN : N < 10000) (hr : ∀ i, sf_rg a i = r) (p : sf_iv lo hi v) (hc : (decide ((sf_bR r).1 ≤ lo) && (decide (hi ≤ (sf_bR r).2) && !sf_jr r)) = true) (hb : m.testBit r = true) (hI : sf_I h) (hQ : ∀ h', sf_I h' → sf_E m h h' → Q none h') : mx_C E (mx_fn true) d 317 [.inr a, .inl (.int v)] h Q :=
  sp_fill ha hN (hQ _ (sf_fi hI hr p hc N) (sf_fiE hr hb N))
theorem sf_fl {hh : mx_H} {t : Nat} {v : Int64} : ∀ (k c : Nat) {h : mx_H}, c + k = 60 → h.2.1 = hh.2.1 ∧ h.2.2.2 = hh.2.2.2 ∧ h.1 = hh.1 → (∀ h', h'.2.1 = hh.2.1 ∧ h'.2.2.2 = hh.2.2.2 ∧ h'.1 = hh.1 → Q none h') → mx_T E (mx_fn true) d 0 0 316 6 [(0, .inr (.inr (t, 20))), (1, .inl (.long v)), (3, .inl (.int (nI c))), (4, .inl (.int (nI 60)))] [] h Q
  | 0, c, h, e, he, hQ => by
    have e : c = 60 := by omega
    subst e
    exact sg316_6 ⟨fun _ => hQ _ he, fun h1 => absurd (by decide +kernel) h1⟩
  | k + 1, c, h, e, he, hQ => by
    refine sg316_6 ⟨fun h1 => absurd h1 (nI_ge (by omega) (by decide +kernel)), fun _ => (show _ ∧ _ from ⟨(show vp_in (nI c) 60 from vp_in_nI (by omega) (by decide +kernel)), ?_⟩)⟩
    rw [nI_1]
    exact sf_fl k (c + 1) (by omega) he hQ
theorem sf_same {h h' : mx_H} (e : h'.2.1 = h.2.1 ∧ h'.2.2.2 = h.2.2.2 ∧ h'.1 = h.1) (hI : sf_I h) : sf_I h' := by
  obtain ⟨n, I, L, R⟩ := h
  obtain ⟨n', I', L', R'⟩ := h'
  obtain ⟨e1, e2, e3⟩ := e
  dsimp only at e1 e2 e3
  subst e1
  subst e2
  subst e3
  exact hI
theorem sf_fillL {t : Nat} {v : Int64} (hI : sf_I h) (hQ : ∀ h', sf_I h' → sf_E 0 h h' → Q none h') : mx_C E (mx_fn true) d 316 [.inr (.inr (t, 20)), .inl (.long v)] h Q :=
  sg316_0 (sf_fl (E := E) (hh := h) 60 0 rfl ⟨rfl, rfl, rfl⟩ (fun h' e => hQ h' (sf_same e hI) ⟨fun a i _ => by rw [e.1], fun a i _ => by rw [e.2.1], fun _ => e.2.2⟩))
theorem sf_nI {n : Nat} {b : Int} (hn : (n : Int) ≤ b) (hb : b ≤ 2147483647) : sf_iv 0 b (nI n) := by
  unfold sf_iv
  rw [nI_toInt (by omega)]
  exact ⟨by omega, hn⟩
theorem sf_of {x : Int32} {b : Nat} (p : sf_iv 0 b x) : ∃ k : Nat, k ≤ b ∧ x = nI k := by
  obtain ⟨p1, p2⟩ := p
  refine ⟨x.toInt.toNat, by omega, Int32.toInt_inj.mp ?_⟩
  have := (iv_rng x).2
  rw [nI_toInt (by omega)]
  omega
theorem sf60 {t0 : Nat} (hI : sf_I h) (hQ : ∀ x h', sf_I h' → sf_E 0 h h' → sf_iv 0 6 x → Q (some (.inl (.int x))) h') : mx_C E (mx_fn true) d 60 [.inr (.inr (t0, 0))] h Q := by
  obtain ⟨N, hN, hc⟩ := sf_of (b := 6) (sf_rd (r := 379) (lo := 0) (hi := 6) hI (.inr (t0, 0)) 0 rfl rfl)
  refine sp_tonesX hN hc (hQ _ _ hI (sf_E0 _ _) (sf_nI ?_ (by decide +kernel)))
  have := sp_cnt_le (h.2.1 (.inr (t0, 4))) 0 N
  omega
theorem sf195 {a1 : Int32} (pa1 : sf_iv 0 11 a1) (hI : sf_I h) (hQ : ∀ x h', sf_I h' → sf_E 0 h h' → sf_iv 0 6 x → Q (some (.inl (.int x))) h') : mx_C E (mx_fn true) d 195 [.inr (.inl 105), .inl (.int a1)] h Q := by
  obtain ⟨S, hS, rfl⟩ := sf_of (b := 11) pa1
  obtain ⟨N, hN, hc⟩ := sf_of (b := 6) (sf_rd (r := 318) (lo := 0) (hi := 6) hI (.inl 106) S rfl rfl)
  refine sp_tonesM (by omega) hN hc (hQ _ _ hI (sf_E0 _ _) (sf_nI ?_ (by decide +kernel)))
  have := sp_cnt_le (h.2.1 (.inl 110)) (6 * S) N
  omega
end SFF
/-! ===== ints as numbers, for linear arithmetic ===== -/
theorem li_add {a b c d X Y : Int} {x y : Int32} (hx : sf_iv a b x) (hy : sf_iv c d y) (hc : iv_cb (a + c) (b + d) (a + c) (b + d) = true) (ex : x.toInt = X) (ey : y.toInt = Y) : (x + y).toInt = X + Y := by
  obtain ⟨-, -, h3, h4⟩ := iv_cb_s hc
  obtain ⟨x1, x2⟩ := hx
  obtain ⟨y1, y2⟩ := hy
  rw [Int32.toInt_add, iv_bm (by omega) (by omega), ex, ey]
theorem li_sub {a b c d X Y : Int} {x y : Int32} (hx : sf_iv a b x) (hy : sf_iv c d y) (hc : iv_cb (a - d) (b - c) (a - d) (b - c) = true) (ex : x.toInt = X) (ey : y.toInt = Y) : (x - y).toInt = X - Y := by
  obtain ⟨-, -, h3, h4⟩ := iv_cb_s hc
  obtain ⟨x1, x2⟩ := hx
  obtain ⟨y1, y2⟩ := hy
  rw [Int32.toInt_sub, iv_bm (by omega) (by omega), ex, ey]
theorem li_mul {b d X Y : Int} {x y : Int32} (hx : sf_iv 0 b x) (hy : sf_iv 0 d y) (hc : iv_cb 0 (b * d) 0 (b * d) = true) (ex : x.toInt = X) (ey : y.toInt = Y) : (x * y).toInt = X * Y := by
  obtain ⟨-, -, h3, h4⟩ := iv_cb_s hc
  obtain ⟨x1, x2⟩ := hx
  obtain ⟨y1, y2⟩ := hy
  have p0 : 0 ≤ x.toInt * y.toInt := Int.mul_nonneg x1 y1
  have p1 : x.toInt * y.toInt ≤ b * d := Int.mul_le_mul x2 y2 y1 (Int.le_trans x1 x2)
  rw [Int32.toInt_mul, iv_bm (by omega) (by omega), ex, ey]
theorem li_div {a b k X : Int} {x y : Int32} (hx : sf_iv a b x) (hc : (decide (0 ≤ a) && decide (0 < k)) = true) (ex : x.toInt = X) (ey : y.toInt = k) : (x / y).toInt = X / k := by
  simp only [Bool.and_eq_true, decide_eq_true_eq] at hc
  obtain ⟨x1, x2⟩ := hx
  have r := (iv_rng x).2
  have q0 : 0 ≤ x.toInt / k := Int.ediv_nonneg (by omega) (by omega)
  have q1 : x.toInt / k ≤ x.toInt := Int.ediv_le_self _ (by omega)
  rw [Int32.toInt_div, ey, Int.tdiv_eq_ediv_of_nonneg (by omega), iv_bm (by omega) (by omega), ex]
theorem li_o {X : Int} {H : mx_H} {a b : mx_A} {i j : Nat} {v : Int32} (hne : b ≠ a) (p : (H.2.1 b j).toInt = X) : ((mx_uI H a i v).2.1 b j).toInt = X := (congrArg Int32.toInt (sp_up_ne hne)).trans p
theorem li_s {X : Int} {H : mx_H} {a : mx_A} {i : Nat} {v : Int32} (p : v.toInt = X) : ((mx_uI H a i v).2.1 a i).toInt = X := (congrArg Int32.toInt (if_pos ⟨rfl, rfl⟩)).trans p
theorem li_g {X : Int} {H : mx_H} {a : mx_A} {i j : Nat} {v : Int32} (hj : j ≠ i) (p : (H.2.1 a j).toInt = X) : ((mx_uI H a i v).2.1 a j).toInt = X := (congrArg Int32.toInt (if_neg (fun q => hj q.2))).trans p
theorem li_L {X : Int} {H : mx_H} {a b : mx_A} {i j : Nat} {v : Int64} (p : (H.2.1 b j).toInt = X) : ((mx_uL H a i v).2.1 b j).toInt = X := p
theorem li_e {X : Int} {x y : Int32} (e : x = y) (p : y.toInt = X) : x.toInt = X := (congrArg Int32.toInt e).trans p
theorem li_lt {x y : Int32} {X Y : Int} (g : x < y) (ex : x.toInt = X) (ey : y.toInt = Y) : X < Y := by
  rw [← ex, ← ey]
  exact Int32.lt_iff_toInt_lt.mp g
theorem li_le {x y : Int32} {X Y : Int} (g : x ≤ y) (ex : x.toInt = X) (ey : y.toInt = Y) : X ≤ Y := by
  rw [← ex, ← ey]
  exact Int32.le_iff_toInt_le.mp g
theorem li_eq {x y : Int32} {X Y : Int} (g : x = y) (ex : x.toInt = X) (ey : y.toInt = Y) : X = Y := by
  rw [← ex, ← ey, g]
theorem li_ne {x y : Int32} {X Y : Int} (g : ¬ x = y) (ex : x.toInt = X) (ey : y.toInt = Y) : ¬ X = Y := by
  rw [← ex, ← ey]
  exact fun e => g (Int32.toInt_inj.mp e)
theorem li_in {x : Int32} {X : Int} {n : Nat} (ex : x.toInt = X) (h : 0 ≤ X ∧ X < n) : vp_in x n := by
  refine sp_vin (Int32.le_iff_toInt_le.mpr ?_) ?_
  · rw [show (0 : Int32).toInt = 0 from rfl]
    omega
  · show x.toInt.toNat < n
    omega
theorem li_iv {x : Int32} {X lo hi : Int} (ex : x.toInt = X) (h : lo ≤ X ∧ X ≤ hi) : sf_iv lo hi x := by
  rw [← ex] at h
  exact h
theorem li_min {x y : Int32} {X Y : Int} (ex : x.toInt = X) (ey : y.toInt = Y) : (if y < x then y else x).toInt ≤ X ∧ (if y < x then y else x).toInt ≤ Y := by
  split
  · next g => have := Int32.lt_iff_toInt_lt.mp g; omega
  · next g => have := Int32.le_iff_toInt_le.mp (Int32.not_lt.mp g); omega
/-! a switch by a table -/
theorem sw_d {P : Nat → Prop} {tgt D : Nat} {z : Int} (hz : z = (tgt : Int)) (hD : z = (D : Int)) (p : P D) : P tgt := by
  have e : tgt = D := by omega
  rw [e]
  exact p
theorem sw_4 {P : Nat → Prop} {x l p0 o0 o1 o2 o3 : Int} {tgt : Nat} (D0 D1 D2 D3 : Nat) (q : l ≤ x ∧ x ≤ l + 3 ∧ ∃ o, (#[o0, o1, o2, o3] : Array Int)[(x - l).toNat]? = some o ∧ p0 + o = (tgt : Int))
    (h0 : x = l → P D0) (h1 : x = l + 1 → P D1) (h2 : x = l + 2 → P D2) (h3 : x = l + 3 → P D3) (e0 : p0 + o0 = (D0 : Int)) (e1 : p0 + o1 = (D1 : Int)) (e2 : p0 + o2 = (D2 : Int)) (e3 : p0 + o3 = (D3 : Int)) : P tgt := by
  obtain ⟨q1, q2, o, ho, hz⟩ := q
  rcases (show x = l ∨ x = l + 1 ∨ x = l + 2 ∨ x = l + 3 by omega) with r | r | r | r
  · rw [show (x - l).toNat = 0 by omega] at ho
    have ho : some o0 = some o := ho
    cases ho
    exact sw_d hz e0 (h0 r)
  · rw [show (x - l).toNat = 1 by omega] at ho
    have ho : some o1 = some o := ho
    cases ho
    exact sw_d hz e1 (h1 r)
  · rw [show (x - l).toNat = 2 by omega] at ho
    have ho : some o2 = some o := ho
    cases ho
    exact sw_d hz e2 (h2 r)
  · rw [show (x - l).toNat = 3 by omega] at ho
    have ho : some o3 = some o := ho
    cases ho
    exact sw_d hz e3 (h3 r)
theorem sw_5 {P : Nat → Prop} {x l p0 o0 o1 o2 o3 o4 : Int} {tgt : Nat} (D0 D1 D2 D3 D4 : Nat) (q : l ≤ x ∧ x ≤ l + 4 ∧ ∃ o, (#[o0, o1, o2, o3, o4] : Array Int)[(x - l).toNat]? = some o ∧ p0 + o = (tgt : Int))
    (h0 : x = l → P D0) (h1 : x = l + 1 → P D1) (h2 : x = l + 2 → P D2) (h3 : x = l + 3 → P D3) (h4 : x = l + 4 → P D4) (e0 : p0 + o0 = (D0 : Int)) (e1 : p0 + o1 = (D1 : Int)) (e2 : p0 + o2 = (D2 : Int)) (e3 : p0 + o3 = (D3 : Int)) (e4 : p0 + o4 = (D4 : Int)) : P tgt := by
  obtain ⟨q1, q2, o, ho, hz⟩ := q
  rcases (show x = l ∨ x = l + 1 ∨ x = l + 2 ∨ x = l + 3 ∨ x = l + 4 by omega) with r | r | r | r | r
  · rw [show (x - l).toNat = 0 by omega] at ho
    have ho : some o0 = some o := ho
    cases ho
    exact sw_d hz e0 (h0 r)
  · rw [show (x - l).toNat = 1 by omega] at ho
    have ho : some o1 = some o := ho
    cases ho
    exact sw_d hz e1 (h1 r)
  · rw [show (x - l).toNat = 2 by omega] at ho
    have ho : some o2 = some o := ho
    cases ho
    exact sw_d hz e2 (h2 r)
  · rw [show (x - l).toNat = 3 by omega] at ho
    have ho : some o3 = some o := ho
    cases ho
    exact sw_d hz e3 (h3 r)
  · rw [show (x - l).toNat = 4 by omega] at ho
    have ho : some o4 = some o := ho
    cases ho
    exact sw_d hz e4 (h4 r)
theorem sw_6 {P : Nat → Prop} {x l p0 o0 o1 o2 o3 o4 o5 : Int} {tgt : Nat} (D0 D1 D2 D3 D4 D5 : Nat) (q : l ≤ x ∧ x ≤ l + 5 ∧ ∃ o, (#[o0, o1, o2, o3, o4, o5] : Array Int)[(x - l).toNat]? = some o ∧ p0 + o = (tgt : Int))
    (h0 : x = l → P D0) (h1 : x = l + 1 → P D1) (h2 : x = l + 2 → P D2) (h3 : x = l + 3 → P D3) (h4 : x = l + 4 → P D4) (h5 : x = l + 5 → P D5) (e0 : p0 + o0 = (D0 : Int)) (e1 : p0 + o1 = (D1 : Int)) (e2 : p0 + o2 = (D2 : Int)) (e3 : p0 + o3 = (D3 : Int)) (e4 : p0 + o4 = (D4 : Int)) (e5 : p0 + o5 = (D5 : Int)) : P tgt := by
  obtain ⟨q1, q2, o, ho, hz⟩ := q
  rcases (show x = l ∨ x = l + 1 ∨ x = l + 2 ∨ x = l + 3 ∨ x = l + 4 ∨ x = l + 5 by omega) with r | r | r | r | r | r
  · rw [show (x - l).toNat = 0 by omega] at ho
    have ho : some o0 = some o := ho
    cases ho
    exact sw_d hz e0 (h0 r)
  · rw [show (x - l).toNat = 1 by omega] at ho
    have ho : some o1 = some o := ho
    cases ho
    exact sw_d hz e1 (h1 r)
  · rw [show (x - l).toNat = 2 by omega] at ho
    have ho : some o2 = some o := ho
    cases ho
    exact sw_d hz e2 (h2 r)
  · rw [show (x - l).toNat = 3 by omega] at ho
    have ho : some o3 = some o := ho
    cases ho
    exact sw_d hz e3 (h3 r)
  · rw [show (x - l).toNat = 4 by omega] at ho
    have ho : some o4 = some o := ho
    cases ho
    exact sw_d hz e4 (h4 r)
  · rw [show (x - l).toNat = 5 by omega] at ho
    have ho : some o5 = some o := ho
    cases ho
    exact sw_d hz e5 (h5 r)
theorem iv_is {n : Int} {x : Int32} (h : x.toInt = n) : sf_iv n n x := iv_k h
theorem iv_shl_k : ∀ k : Nat, k < 31 → ((1 : Int32) <<< (nI k &&& 31)).toInt = ((2 ^ k : Nat) : Int) := by decide +kernel
theorem iv_shl1 {a b lo hi : Int} {x : Int32} (p : sf_iv a b x) (hc : (decide (0 ≤ a) && (decide (b ≤ 30) && (decide (lo ≤ ((2 ^ a.toNat : Nat) : Int)) && decide (((2 ^ b.toNat : Nat) : Int) ≤ hi)))) = true) : sf_iv lo hi (1 <<< (x &&& 31)) := by
  simp only [Bool.and_eq_true, decide_eq_true_eq] at hc
  obtain ⟨h1, h2, h3, h4⟩ := hc
  obtain ⟨p1, p2⟩ := p
  obtain ⟨k, hk, rfl⟩ := sf_of (b := 30) (x := x) ⟨by omega, by omega⟩
  rw [nI_toInt (by omega)] at p1 p2
  have e := iv_shl_k k (by omega)
  have m1 : 2 ^ a.toNat ≤ 2 ^ k := Nat.pow_le_pow_right (by decide +kernel) (by omega)
  have m2 : 2 ^ k ≤ 2 ^ b.toNat := Nat.pow_le_pow_right (by decide +kernel) (by omega)
  unfold sf_iv
  rw [e]
  exact ⟨Int.le_trans h3 (Int.ofNat_le.mpr m1), Int.le_trans (Int.ofNat_le.mpr m2) h4⟩
theorem iv_and2 {b lo hi : Int} {x y : Int32} (hx : sf_iv 0 b x) (hc : (decide (lo ≤ 0) && decide (b ≤ hi)) = true) : sf_iv lo hi (x &&& y) := by
  simp only [Bool.and_eq_true, decide_eq_true_eq] at hc
  have p := iv_and (x := y) (y := x) (m := x.toInt) rfl (by rw [decide_eq_true_eq]; exact hx.1)
  have e : x &&& y = y &&& x := by
    apply Int32.toBitVec_inj.mp
    rw [Int32.toBitVec_and, Int32.toBitVec_and, BitVec.and_comm]
  rw [e]
  exact ⟨Int.le_trans hc.1 p.1, Int.le_trans p.2 (Int.le_trans hx.2 hc.2)⟩
theorem iv_nat {b : Int} {x : Int32} (hx : sf_iv 0 b x) : x.toInt = (x.toBitVec.toNat : Int) := by
  have h0 : x.toInt = x.toBitVec.toInt := rfl
  have h1 := hx.1
  rw [h0, BitVec.toInt_eq_toNat_cond] at h1
  rw [h0, BitVec.toInt_eq_toNat_cond]
  split at h1
  · rw [if_pos (by assumption)]
  · have := x.toBitVec.isLt
    omega
theorem iv_or {m : Int} {k : Nat} {x y : Int32} (hk : (decide (m + 1 = ((2 ^ k : Nat) : Int)) && decide (k ≤ 31)) = true) (hx : sf_iv 0 m x) (hy : sf_iv 0 m y) : sf_iv 0 m (x ||| y) := by
  simp only [Bool.and_eq_true, decide_eq_true_eq] at hk
  have ex := iv_nat hx
  have ey := iv_nat hy
  obtain ⟨x1, x2⟩ := hx
  obtain ⟨y1, y2⟩ := hy
  have hl : (x ||| y).toBitVec.toNat < 2 ^ k := by
    rw [Int32.toBitVec_or, BitVec.toNat_or]
    exact Nat.or_lt_two_pow (by omega) (by omega)
  have h31 : 2 ^ k ≤ 2 ^ 31 := Nat.pow_le_pow_right (by decide +kernel) hk.2
  have e : (x ||| y).toInt = ((x ||| y).toBitVec.toNat : Int) := by
    show (x ||| y).toBitVec.toInt = _
    rw [BitVec.toInt_eq_toNat_cond, if_pos (by omega)]
  exact ⟨by omega, by omega⟩
/-! ===== bitsOf and minor of the reference ===== -/
theorem mx_T0.deep {E : mx_Ev} {fin : mx_A → Nat → Option mx_A} {d d' bc bs mid pc : Nat} {lv : mx_Lv} {st : List mx_V} {h : mx_H} {Q : Option mx_V → mx_H → Prop} (hd : d ≤ d') (hT : mx_T0 E fin d bc bs mid pc lv st h Q) : mx_T0 E fin d' bc bs mid pc lv st h Q :=
  fun p e R s m args below meth c H locs cells slots Qw ls hS => hT p e R s m args below meth c H locs cells slots Qw ls ⟨hS.1, hS.2.1, hS.2.2.1, hS.2.2.2.1, hS.2.2.2.2.1, hS.2.2.2.2.2.1, hS.2.2.2.2.2.2.1, hS.2.2.2.2.2.2.2.1, hS.2.2.2.2.2.2.2.2.1, Nat.le_trans hd hS.2.2.2.2.2.2.2.2.2.1, by
    have := hS.2.2.2.2.2.2.2.2.2.2
    omega⟩
theorem mx_T.deep {E : mx_Ev} {fin : mx_A → Nat → Option mx_A} {d d' bc bs mid pc : Nat} {lv : mx_Lv} {st : List mx_V} {h : mx_H} {Q : Option mx_V → mx_H → Prop} (hd : d ≤ d') (hT : mx_T E fin d bc bs mid pc lv st h Q) : mx_T E fin d' bc bs mid pc lv st h Q :=
  mx_T.mk ⟨fun f hf P hP => mx_T0.deep hd (hT.up.1 f hf P hP), hT.up.2⟩
/-- how many bits of a number below 128 -/
def sf_pb (k : Nat) : Nat := k % 2 + k / 2 % 2 + k / 4 % 2 + k / 8 % 2 + k / 16 % 2 + k / 32 % 2 + k / 64 % 2
theorem sf_b1 : ∀ k, k < 128 → k ≠ 0 → (nI k &&& (nI k - 1)) = nI (k &&& (k - 1)) ∧ (k &&& (k - 1)) < 128 ∧ sf_pb (k &&& (k - 1)) + 1 = sf_pb k := by decide +kernel
theorem sf_b2 : ∀ k, k < 64 → sf_pb k ≤ 6 := by decide +kernel
theorem sf_b2b : ∀ k, k < 128 → sf_pb k ≤ 7 := by decide +kernel
theorem sf_b3 : ∀ k, k < 128 → (nI k = 0 ↔ k = 0) := by decide +kernel
theorem sf_b4 : ∀ k, k < 64 → ∀ i, i < 6 → ((nI k >>> (nI i &&& 31)) &&& 1) = nI (k / 2 ^ i % 2) := by decide +kernel
theorem sf_b5 : ∀ k, k < 64 → ∀ i, i < 6 → (nI k &&& (((1 : Int32) <<< (nI i &&& 31)) ^^^ (-1))) = nI (k &&& (63 - 2 ^ i)) ∧ (k &&& (63 - 2 ^ i)) < 64 ∧ (k / 2 ^ i % 2 = 1 → sf_pb (k &&& (63 - 2 ^ i)) + 1 = sf_pb k) := by decide +kernel
theorem sf_b6 : ∀ k, k < 64 → k ≠ 0 → ∃ i, i < 6 ∧ k / 2 ^ i % 2 = 1 ∧ ∀ j, j < i → k / 2 ^ j % 2 = 0 := by decide +kernel
theorem sf_b7 : ∀ b : Nat, b < 2 → (nI b = 0 ↔ b = 0) := by decide +kernel
section SFB
variable {E : mx_Ev} {d : Nat} {h : mx_H} {Q : Option mx_V → mx_H → Prop}
theorem sf211_4 {b : Nat} (hb : b ≤ 7) : ∀ (n k c : Nat), k < 128 → sf_pb k = n → c + n ≤ b → (∀ x, sf_iv 0 b x → Q (some (.inl (.int x))) h) → mx_T E (mx_fn true) d 0 0 211 4 [(1, .inl (.int (nI c))), (2, .inl (.int (nI k)))] [] h Q
  | 0, k, c, hk, hp, hc, hQ => by
    refine sg211_4 ⟨fun _ => hQ _ (sf_nI (by omega) (by omega)), fun g => ?_⟩
    have hk0 : k ≠ 0 := fun e => g ((sf_b3 k hk).mpr e)
    have := (sf_b1 k hk hk0).2.2
    omega
  | n + 1, k, c, hk, hp, hc, hQ => by
    refine sg211_4 ⟨fun _ => hQ _ (sf_nI (by omega) (by omega)), fun g => ?_⟩
    have hk0 : k ≠ 0 := fun e => g ((sf_b3 k hk).mpr e)
    obtain ⟨e1, e2, e3⟩ := sf_b1 k hk hk0
    rw [e1, nI_1]
    exact sf211_4 hb n _ (c + 1) e2 (by omega) (by omega) hQ
theorem sf211 {a0 : Int32} (pa0 : sf_iv 0 127 a0) (hI : sf_I h) (hQ : ∀ x h', sf_I h' → sf_E 0 h h' → sf_iv 0 7 x → (a0.toInt ≤ 63 → x.toInt ≤ 6) → Q (some (.inl (.int x))) h') : mx_C E (mx_fn true) d 211 [.inl (.int a0)] h Q := by
  obtain ⟨k, hk, rfl⟩ := sf_of (b := 127) pa0
  by_cases h6 : k < 64
  · have := sf_b2 k h6
    exact sg211_0 (sf211_4 (b := 6) (by decide +kernel) _ k 0 (by omega) rfl (by omega) (fun x hx => hQ x h hI (sf_E0 _ _) ⟨hx.1, Int.le_trans hx.2 (by decide +kernel)⟩ (fun _ => hx.2)))
  · have := sf_b2b k (by omega)
    refine sg211_0 (sf211_4 (b := 7) (by decide +kernel) _ k 0 (by omega) rfl (by omega) (fun x hx => hQ x h hI (sf_E0 _ _) hx (fun q => ?_)))
    rw [nI_toInt (by omega)] at q
    omega
theorem nI_64 (a b : Nat) : 64 * nI a + nI b = nI (64 * a + b) := by
  rw [show (64 : Int32) = nI 64 from rfl, nI_mul, nI_add]
abbrev sf_mM : Nat := 860061980996276816854057835738282602798711870938105421401595814770096078533181803026256957416297132457984
theorem sf210_60 {s c i : Nat} {h0 : mx_H} (hs : s < 64) (hc : c < 64) (hi : i < 6) (hQ : ∀ x h', sf_I h' → sf_E sf_mM h0 h' → Q (some (.inl (.long x))) h')
    (hrec : ∀ c', c' < 64 → ∀ {h1 : mx_H} {Q1 : Option mx_V → mx_H → Prop}, sf_I h1 → (∀ x h', sf_I h' → sf_E sf_mM h1 h' → Q1 (some (.inl (.long x))) h') → mx_C E (mx_fn true) d 210 [.inr (.inl 105), .inl (.int (nI (s &&& (63 - 2 ^ i)))), .inl (.int (nI c'))] h1 Q1) :
    ∀ (n j : Nat) {h : mx_H} {a5 : Int64} {a7 : Int32}, j + n = 6 → sf_I h → sf_E sf_mM h0 h → mx_T E (mx_fn true) (d + 1) 0 0 210 60 [(0, .inr (.inl 105)), (1, .inl (.int (nI s))), (2, .inl (.int (nI c))), (3, .inl (.int (nI (64 * s + c)))), (4, .inl (.int (nI i))), (5, .inl (.long a5)), (7, .inl (.int a7)), (8, .inl (.int (nI j)))] [] h Q
  | 0, j, h, a5, a7, e, hI, hE => by
    have hv : vp_in (nI (64 * s + c)) 4096 := vp_in_nI (by omega) (by decide +kernel)
    refine sg210_60 ⟨fun _ => ⟨hv, hv, hQ _ _ (sf_uL (sf_uI (r := 348) hI rfl (srd_266_105_42 hI) (by decide +kernel))) (sf_EL (sf_Eu (r := 348) rfl (by decide +kernel) hE))⟩, fun g => absurd ?_ g⟩
    have e : j = 6 := by omega
    subst e
    obtain ⟨N, hN, hr⟩ := sf_of (b := 6) (sf_rd (r := 261) (lo := 0) (hi := 6) hI (.inl 105) 37 rfl rfl)
    rw [hr]
    exact nI_le hN (by decide +kernel)
  | n + 1, j, h, a5, a7, e, hI, hE => by
    have hv : vp_in (nI (64 * s + c)) 4096 := vp_in_nI (by omega) (by decide +kernel)
    have hj : j < 6 := by omega
    have hm : vp_in (6 * nI i + nI j) 36 := by
      rw [nI_6]
      exact vp_in_nI (by omega) (by decide +kernel)
    have ih : ∀ {h : mx_H} {a5 : Int64} {a7 : Int32}, sf_I h → sf_E sf_mM h0 h → mx_T E (mx_fn true) (d + 1) 0 0 210 60 [(0, .inr (.inl 105)), (1, .inl (.int (nI s))), (2, .inl (.int (nI c))), (3, .inl (.int (nI (64 * s + c)))), (4, .inl (.int (nI i))), (5, .inl (.long a5)), (7, .inl (.int a7)), (8, .inl (.int (nI j + 1)))] [] h Q := by
      intro h a5 a7 hI hE
      rw [nI_1]
      exact sf210_60 hs hc hi hQ hrec n (j + 1) (by omega) hI hE
    refine sg210_60 ⟨fun _ => ⟨hv, hv, hQ _ _ (sf_uL (sf_uI (r := 348) hI rfl (srd_266_105_42 hI) (by decide +kernel))) (sf_EL (sf_Eu (r := 348) rfl (by decide +kernel) hE))⟩, fun _ => ⟨fun _ => ⟨hm, ⟨fun _ => ⟨fun _ => ih hI hE, fun _ => ih hI hE⟩, fun _ => ⟨hm, ?_⟩⟩⟩, fun _ => ih hI hE⟩⟩
    rw [(sf_b5 s hs i hi).1, (sf_b5 c hc j hj).1]
    refine hrec _ (sf_b5 c hc j hj).2.1 hI ?_
    intro x h2 hI2 hE2
    have hE3 : sf_E sf_mM h0 h2 := sf_Et (by decide +kernel) hE hE2
    exact hx_l ⟨fun _ => ⟨fun _ => ih hI2 hE3, fun _ => ih hI2 hE3⟩, fun _ => ⟨fun _ => ih hI2 hE3, fun _ => ih hI2 hE3⟩⟩
theorem sf210_36 {s c i : Nat} (hs : s < 64) (hi : i < 6) (hb : s / 2 ^ i % 2 = 1) (hz : ∀ j, j < i → s / 2 ^ j % 2 = 0)
    (hk : mx_T E (mx_fn true) (d + 1) 0 0 210 60 [(0, .inr (.inl 105)), (1, .inl (.int (nI s))), (2, .inl (.int (nI c))), (3, .inl (.int (nI (64 * s + c)))), (4, .inl (.int (nI i))), (5, .inl (.long 0)), (7, .inl (.int 0)), (8, .inl (.int 0))] [] h Q) :
    ∀ (n j : Nat), j + n = i → mx_T E (mx_fn true) (d + 1) 0 0 210 36 [(0, .inr (.inl 105)), (1, .inl (.int (nI s))), (2, .inl (.int (nI c))), (3, .inl (.int (nI (64 * s + c)))), (4, .inl (.int (nI j)))] [] h Q
  | 0, j, e => by
    have e : j = i := by omega
    subst e
    refine sg210_36 ⟨fun _ => hk, fun g => absurd ?_ g⟩
    rw [sf_b4 s hs j hi, hb]
    decide
  | n + 1, j, e => by
    refine sg210_36 ⟨fun g => absurd ?_ g, fun _ => ?_⟩
    · rw [sf_b4 s hs j (by omega), hz j (by omega)]
      decide
    · rw [nI_1]
      exact sf210_36 hs hi hb hz hk n (j + 1) (by omega)
theorem sf210k : ∀ (k s c : Nat), s < 64 → c < 64 → sf_pb s ≤ k → ∀ {h : mx_H} {Q : Option mx_V → mx_H → Prop}, sf_I h → (∀ x h', sf_I h' → sf_E sf_mM h h' → Q (some (.inl (.long x))) h') → mx_C E (mx_fn true) (d + k + 1) 210 [.inr (.inl 105), .inl (.int (nI s)), .inl (.int (nI c))] h Q
  | k, s, c, hs, hc, hp, h, Q, hI, hQ => by
    by_cases h0 : s = 0
    · subst h0
      exact sg210_0 ⟨fun g => absurd (by decide +kernel) g, fun _ => hQ _ _ hI (sf_E0 _ _)⟩
    · obtain ⟨i, hi, hb, hz⟩ := sf_b6 s hs h0
      have hv : vp_in (64 * nI s + nI c) 4096 := by
        rw [nI_64]
        exact vp_in_nI (by omega) (by decide +kernel)
      obtain ⟨-, e2, e3⟩ := sf_b5 s hs i hi
      have e3 := e3 hb
      match k, hp with
      | 0, hp => omega
      | k + 1, hp =>
        refine sg210_0 ⟨fun _ => ⟨hv, ⟨fun _ => ?_, fun _ => ⟨hv, hQ _ _ hI (sf_E0 _ _)⟩⟩⟩, fun g => absurd (fun q => h0 ((sf_b3 s (by omega)).mp q)) g⟩
        rw [nI_64]
        refine sf210_36 (i := i) hs hi hb hz (sf210_60 hs hc hi hQ (fun c' hc' h1 Q1 hI1 hQ1 => sf210k k _ c' e2 hc' (by omega) hI1 hQ1) 6 0 rfl hI (sf_E0 _ _)) i 0 (Nat.zero_add _)
theorem sf210 {a1 a2 : Int32} (pa1 : sf_iv 0 63 a1) (pa2 : sf_iv 0 63 a2) (hI : sf_I h) (hQ : ∀ x h', sf_I h' → sf_E sf_mM h h' → Q (some (.inl (.long x))) h') : mx_C E (mx_fn true) (d + 8) 210 [.inr (.inl 105), .inl (.int a1), .inl (.int a2)] h Q := by
  obtain ⟨s, hs, rfl⟩ := sf_of (b := 63) pa1
  obtain ⟨c, hc, rfl⟩ := sf_of (b := 63) pa2
  exact sf210k (d := d) 7 s c (by omega) (by omega) (Nat.le_trans (sf_b2 s (by omega)) (by decide +kernel)) hI hQ
end SFB
/-! ===== what holds between ints, behind a write ===== -/
/-- the ints of the J regions behind a write -/
theorem sf_jfu {h : mx_H} {a : mx_A} {i r : Nat} {v : Int32} (e : sf_rg a i = r) (hj : sf_jr r = true) (b : mx_A) (j : Nat) : sf_jf (mx_uI h a i v) b j = if b = a ∧ j = i then v.toInt else sf_jf h b j := by
  subst e
  unfold sf_jf
  by_cases q : b = a ∧ j = i
  · rw [if_pos q, q.1, q.2, hj, cond_true]
    exact congrArg Int32.toInt (if_pos ⟨rfl, rfl⟩)
  · rw [if_neg q, show (mx_uI h a i v).2.1 b j = h.2.1 b j from if_neg q]
theorem sf_jfr {h : mx_H} {a : mx_A} {i r : Nat} (e : sf_rg a i = r) (hj : sf_jr r = true) : sf_jf h a i = (h.2.1 a i).toInt := by
  subst e
  unfold sf_jf
  rw [hj, cond_true]
/-- a write to a J region: bounds and what holds between ints must be shown -/
theorem sf_uJ {h : mx_H} {a : mx_A} {i r : Nat} {v : Int32} {lo hi : Int} (hI : sf_I h) (e : sf_rg a i = r) (p : sf_iv lo hi v) (hc : (decide ((sf_bR r).1 ≤ lo) && decide (hi ≤ (sf_bR r).2)) = true) (hJ : sf_J (mx_uI h a i v)) : sf_I (mx_uI h a i v) := by
  subst e
  simp only [Bool.and_eq_true, decide_eq_true_eq] at hc
  refine ⟨fun b j => ?_, hI.2.1, hJ⟩
  by_cases q : b = a ∧ j = i
  · obtain ⟨rfl, rfl⟩ := q
    exact iv_s ⟨Int.le_trans hc.1 p.1, Int.le_trans p.2 hc.2⟩
  · exact iv_e (if_neg q) (hI.1 b j)
/-- bounds and shapes alone, without what holds between ints -/
def sf_B (h : mx_H) : Prop := (∀ a i, sf_iv (sf_bd a i).1 (sf_bd a i).2 (h.2.1 a i)) ∧ (∀ a i b, sf_sr a i = true → h.2.2.2 a i = some b → ∃ j, b = .inr (j, 0))
theorem sf_I.B {h : mx_H} (hI : sf_I h) : sf_B h := ⟨hI.1, hI.2.1⟩
theorem sf_B.I {h : mx_H} (hB : sf_B h) (hJ : sf_J h) : sf_I h := ⟨hB.1, hB.2, hJ⟩
theorem sf_rdB {h : mx_H} {r : Nat} {lo hi : Int} (hB : sf_B h) (a : mx_A) (i : Nat) (e : sf_rg a i = r) (e2 : sf_bR r = (lo, hi)) : sf_iv lo hi (h.2.1 a i) := by
  have p := hB.1 a i
  unfold sf_bd at p
  rw [e, e2] at p
  exact p
theorem sf_uB {h : mx_H} {a : mx_A} {i r : Nat} {v : Int32} {lo hi : Int} (hB : sf_B h) (e : sf_rg a i = r) (p : sf_iv lo hi v) (hc : (decide ((sf_bR r).1 ≤ lo) && decide (hi ≤ (sf_bR r).2)) = true) : sf_B (mx_uI h a i v) := by
  subst e
  simp only [Bool.and_eq_true, decide_eq_true_eq] at hc
  refine ⟨fun b j => ?_, hB.2⟩
  by_cases q : b = a ∧ j = i
  · obtain ⟨rfl, rfl⟩ := q
    exact iv_s ⟨Int.le_trans hc.1 p.1, Int.le_trans p.2 hc.2⟩
  · exact iv_e (if_neg q) (hB.1 b j)
/-! each part hangs on its own cells alone -/
theorem sf_J1_c {f g : mx_A → Nat → Int} (e : ∀ j o i, (o = 0 ∨ o = 5 ∨ o = 6) → g (.inr (j, o)) i = f (.inr (j, o)) i) (h : sf_J1 f) : sf_J1 g := by
  intro j k hk
  rw [e j 0 6 (Or.inl rfl)] at hk
  rw [e j 0 0 (Or.inl rfl), e j 5 k (Or.inr (Or.inl rfl)), e j 6 k (Or.inr (Or.inr rfl))]
  exact h j k hk
theorem sf_J2_c {f g : mx_A → Nat → Int} (e0 : g (.inl 60) 1 = f (.inl 60) 1) (e1 : ∀ i, g (.inl 61) i = f (.inl 61) i) (e2 : ∀ i, g (.inl 62) i = f (.inl 62) i) (h : sf_J2 f) : sf_J2 g := by
  intro k hk q
  rw [e0] at hk
  rw [e1] at q
  rw [e2]
  exact h k hk q
theorem sf_J3_c {f g : mx_A → Nat → Int} (e0 : g (.inl 84) 0 = f (.inl 84) 0) (e1 : g (.inl 84) 1 = f (.inl 84) 1) (e2 : ∀ i, g (.inl 86) i = f (.inl 86) i) (e3 : ∀ i, g (.inl 87) i = f (.inl 87) i) (h : sf_J3 f) : sf_J3 g := by
  unfold sf_J3
  rw [e0, e1]
  refine ⟨h.1, fun k hk q => ?_⟩
  rw [e2] at q
  rw [e3]
  exact h.2 k hk q
theorem sf_J4_c {f g : mx_A → Nat → Int} {R : mx_A → Nat → Option mx_A} {n : Nat} (e : g (.inl 0) 2 = f (.inl 0) 2) (h : sf_J4 f R n) : sf_J4 g R n := by
  obtain ⟨m, h1, h2, h3⟩ := h
  exact ⟨m, h1, h2, e.trans h3.1, h3.2⟩
theorem sf_JR_c {f g : mx_A → Nat → Int} (e : ∀ n i, 105 ≤ n → g (.inl n) i = f (.inl n) i) (h : sf_JR f) : sf_JR g := by
  have e105 : ∀ i, g (.inl 105) i = f (.inl 105) i := fun i => e 105 i (by decide +kernel)
  have e106 : ∀ i, g (.inl 106) i = f (.inl 106) i := fun i => e 106 i (by decide +kernel)
  have e107 : ∀ i, g (.inl 107) i = f (.inl 107) i := fun i => e 107 i (by decide +kernel)
  have e111 : ∀ i, g (.inl 111) i = f (.inl 111) i := fun i => e 111 i (by decide +kernel)
  have e113 : ∀ i, g (.inl 113) i = f (.inl 113) i := fun i => e 113 i (by decide +kernel)
  have e117 : ∀ i, g (.inl 117) i = f (.inl 117) i := fun i => e 117 i (by decide +kernel)
  have e123 : ∀ i, g (.inl 123) i = f (.inl 123) i := fun i => e 123 i (by decide +kernel)
  have e124 : ∀ i, g (.inl 124) i = f (.inl 124) i := fun i => e 124 i (by decide +kernel)
  have e125 : ∀ i, g (.inl 125) i = f (.inl 125) i := fun i => e 125 i (by decide +kernel)
  have e126 : ∀ i, g (.inl 126) i = f (.inl 126) i := fun i => e 126 i (by decide +kernel)
  unfold sf_JR sf_K1 sf_K2 sf_K3 sf_K4 sf_K5 at *
  simp only [e105, e106, e107, e111, e113, e117, e123, e124, e125, e126]
  exact h
theorem sf_JC_c {f g : mx_A → Nat → Int} {R : mx_A → Nat → Option mx_A} {n : Nat} (e : ∀ k i, k < 105 → g (.inl k) i = f (.inl k) i) (e2 : ∀ q i, g (.inr q) i = f (.inr q) i) (h : sf_JC f R n) : sf_JC g R n :=
  ⟨sf_J1_c (fun j o i _ => e2 (j, o) i) h.1, sf_J2_c (e _ _ (by decide +kernel)) (fun i => e _ i (by decide +kernel)) (fun i => e _ i (by decide +kernel)) h.2.1, sf_J3_c (e _ _ (by decide +kernel)) (e _ _ (by decide +kernel)) (fun i => e _ i (by decide +kernel)) (fun i => e _ i (by decide +kernel)) h.2.2.1, sf_J4_c (e _ _ (by decide +kernel)) h.2.2.2⟩
/-! ===== by hand: what writes where more is known than bounds ===== -/
theorem sf_jf_o {h : mx_H} {a : mx_A} {i : Nat} {v : Int32} {b : mx_A} {j : Nat} (hne : ¬ (b = a ∧ j = i)) : sf_jf (mx_uI h a i v) b j = sf_jf h b j := by
  unfold sf_jf
  rw [show (mx_uI h a i v).2.1 b j = h.2.1 b j from if_neg hne]
/-- a write to the list of strokes -/
theorem sf_Jw2 {h : mx_H} {n i : Nat} {v : Int32} (hn : n = 60 ∨ n = 61 ∨ n = 62) (hJ : sf_J h) (h2 : sf_J2 (sf_jf (mx_uI h (.inl n) i v))) : sf_J (mx_uI h (.inl n) i v) := by
  have o : ∀ k j, k ≠ n → sf_jf (mx_uI h (.inl n) i v) (.inl k) j = sf_jf h (.inl k) j := fun k j hk => sf_jf_o (fun q => hk (Sum.inl.inj q.1))
  refine ⟨⟨sf_J1_c (fun j q k _ => sf_jf_o (fun q => by cases q.1)) hJ.1.1, h2, ?_, ?_⟩, sf_JR_c (fun k j hk => o k j (by omega)) hJ.2⟩
  · exact sf_J3_c (o _ _ (by omega)) (o _ _ (by omega)) (fun j => o _ j (by omega)) (fun j => o _ j (by omega)) hJ.1.2.2.1
  · exact sf_J4_c (o _ _ (by omega)) hJ.1.2.2.2
section SFH
variable {E : mx_Ev} {d : Nat} {h : mx_H} {Q : Option mx_V → mx_H → Prop}
theorem sf124 (hI : sf_I h) (hQ : ∀ x h', sf_I h' → sf_E 2961817721679848385985212583086110512513024 h h' → sf_iv 0 6 x → Q (some (.inl (.int x))) h') : mx_C E (mx_fn true) d 124 [.inr (.inl 0)] h Q := by
  have J2 : sf_J2 (sf_jf (mx_uI h (.inl 60) 1 0)) := by
    intro k hk
    rw [sf_jfu (r := 137) rfl rfl, if_pos ⟨rfl, rfl⟩, show (0 : Int32).toInt = 0 from rfl] at hk
    omega
  have hI1 : sf_I (mx_uI h (.inl 60) 1 0) := sf_uJ (r := 137) hI rfl ivk_0 (by decide +kernel) (sf_Jw2 (Or.inl rfl) hI.2.2 J2)
  exact sg124_0 (hQ _ _ (sf_uI (r := 141) hI1 rfl ivk_0 (by decide +kernel)) (sf_Eu (r := 141) rfl (by decide +kernel) (sf_Eu (r := 137) rfl (by decide +kernel) (sf_E0 _ _))) (srd_137_60_1 hI))
theorem sf44 {a1 a2 a3 : Int32} (pa1 : sf_iv 3 4 a1) (pa2 : sf_iv 0 14 a2) (pa3 : sf_iv 1 3 a3) (r0 : ¬ a1.toInt = 3 ∨ a2.toInt ≤ 5) (hI : sf_I h) (hQ : ∀ h', sf_I h' → sf_E 4995541149042723104197294140872238042663878656 h h' → Q none h') : mx_C E (mx_fn true) d 44 [.inr (.inl 60), .inl (.int a1), .inl (.int a2), .inl (.int a3)] h Q := by
  obtain ⟨N, hN, hs⟩ := sf_of (b := 6) (sf_rd (r := 137) (lo := 0) (hi := 6) hI (.inl 60) 1 rfl rfl)
  refine sg44_0 ⟨fun g => ?_, fun _ => hQ _ hI (sf_E0 _ _)⟩
  have hN5 : N < 6 := by
    rw [hs] at g
    have := Int32.lt_iff_toInt_lt.mp g
    rw [nI_toInt (by omega), show (6 : Int32).toInt = 6 from rfl] at this
    omega
  have hv : vp_in (h.2.1 (.inl 60) 1) 6 := by
    rw [hs]
    exact vp_in_nI hN5 (by decide +kernel)
  have hc : (h.2.1 (.inl 60) 1).toNatClampNeg = N := by
    rw [hs]
    exact nI_clamp (by omega)
  have hf : ∀ h' : mx_H, h'.2.1 (.inl 60) 1 = nI N → sf_jf h' (.inl 60) 1 = N := fun h' e => by
    rw [sf_jfr (r := 137) rfl rfl, e, nI_toInt (by omega)]
  refine ⟨hv, hv, hv, ?_⟩
  -- what stands at N does not matter as long as N strokes are told
  have s1 : (mx_uI h (.inl 61) N a1).2.1 (.inl 60) 1 = nI N := hs
  have I1 : sf_I (mx_uI h (.inl 61) N a1) := by
    refine sf_uJ (r := 149) hI rfl pa1 (by decide +kernel) (sf_Jw2 (Or.inr (Or.inl rfl)) hI.2.2 ?_)
    intro k hk q
    rw [hf _ s1] at hk
    rw [sf_jf_o (fun q => by have := q.2; omega)] at q
    rw [sf_jf_o (fun q => by cases q.1)]
    exact hI.2.2.1.2.1 k (by rw [hf h hs]; exact hk) q
  have s2 : (mx_uI (mx_uI h (.inl 61) N a1) (.inl 62) N a2).2.1 (.inl 60) 1 = nI N := hs
  have I2 : sf_I (mx_uI (mx_uI h (.inl 61) N a1) (.inl 62) N a2) := by
    refine sf_uJ (r := 150) I1 rfl pa2 (by decide +kernel) (sf_Jw2 (Or.inr (Or.inr rfl)) I1.2.2 ?_)
    intro k hk q
    rw [hf _ s2] at hk
    rw [sf_jf_o (fun q => by cases q.1)] at q
    rw [sf_jf_o (fun q => by have := q.2; omega)]
    exact I1.2.2.1.2.1 k (by rw [hf _ s1]; exact hk) q
  have I3 : sf_I (mx_uI (mx_uI (mx_uI h (.inl 61) N a1) (.inl 62) N a2) (.inl 63) N a3) := sf_uI (r := 151) I2 rfl pa3 (by decide +kernel)
  have s3 : (mx_uI (mx_uI (mx_uI h (.inl 61) N a1) (.inl 62) N a2) (.inl 63) N a3).2.1 (.inl 60) 1 = nI N := hs
  have I4 : sf_I (mx_uI (mx_uI (mx_uI (mx_uI h (.inl 61) N a1) (.inl 62) N a2) (.inl 63) N a3) (.inl 60) 1 (nI N + 1)) := by
    rw [nI_1]
    refine sf_uJ (r := 137) (lo := 0) (hi := 6) I3 rfl (sf_nI (by omega) (by decide +kernel)) (by decide +kernel) (sf_Jw2 (Or.inl rfl) I3.2.2 ?_)
    intro k hk q
    rw [sf_jfu (r := 137) rfl rfl, if_pos ⟨rfl, rfl⟩, nI_toInt (by omega)] at hk
    rw [sf_jf_o (fun q => by cases q.1)] at q ⊢
    by_cases hkN : k = N
    · subst hkN
      rw [sf_jf_o (fun q => by cases q.1), sf_jf_o (fun q => by cases q.1), sf_jfu (r := 149) rfl rfl, if_pos ⟨rfl, rfl⟩] at q
      rw [sf_jf_o (fun q => by cases q.1), sf_jfu (r := 150) rfl rfl, if_pos ⟨rfl, rfl⟩]
      rcases r0 with r0 | r0
      · exact absurd q r0
      · exact r0
    · exact I3.2.2.1.2.1 k (by rw [hf _ s3]; omega) q
  have K := hQ _ I4 (sf_Eu (r := 137) rfl (by decide +kernel) (sf_Eu (r := 151) rfl (by decide +kernel) (sf_Eu (r := 150) rfl (by decide +kernel) (sf_Eu (r := 149) rfl (by decide +kernel) (sf_E0 _ _)))))
  rw [show ((mx_uI h (.inl 61) (Int32.toNatClampNeg (h.2.1 (.inl 60) 1)) a1).2.1 (.inl 60) 1) = h.2.1 (.inl 60) 1 from rfl]
  show Q none (mx_uI (mx_uI (mx_uI (mx_uI h (.inl 61) (Int32.toNatClampNeg (h.2.1 (.inl 60) 1)) a1) (.inl 62) (Int32.toNatClampNeg (h.2.1 (.inl 60) 1)) a2) (.inl 63) (Int32.toNatClampNeg (h.2.1 (.inl 60) 1)) a3) (.inl 60) 1 (h.2.1 (.inl 60) 1 + 1))
  rw [hc, hs]
  exact K
/-- a told stroke of HEAVY names a corner -/
theorem sf_j2x {k : Int32} (hI : sf_I h) (h0 : 0 ≤ k.toInt) (hk : k.toInt < (h.2.1 (.inl 60) 1).toInt) : ¬ (h.2.1 (.inl 61) k.toNatClampNeg).toInt = 3 ∨ (h.2.1 (.inl 62) k.toNatClampNeg).toInt ≤ 5 := by
  by_cases q : (h.2.1 (.inl 61) k.toNatClampNeg).toInt = 3
  · refine Or.inr ?_
    have hj := hI.2.2.1.2.1 k.toNatClampNeg (by
      rw [sf_jfr (r := 137) rfl rfl]
      show ((k.toInt.toNat : Nat) : Int) < _
      omega) (by rw [sf_jfr (r := 149) rfl rfl]; exact q)
    rw [sf_jfr (r := 150) rfl rfl] at hj
    exact hj
  · exact Or.inl q
end SFH
/-! ===== writes where more is known than bounds, one by one ===== -/
theorem sf_ir {j j' o o' : Nat} (q : (Sum.inr (j, o) : mx_A) = .inr (j', o')) : j = j' ∧ o = o' := by
  injection q with t
  injection t with t1 t2
  exact ⟨t1, t2⟩
theorem sf_Jg1 {h h' : mx_H} (o : ∀ k i, sf_jf h' (.inl k) i = sf_jf h (.inl k) i) (eR : h'.2.2.2 = h.2.2.2) (en : h'.1 = h.1) (hJ : sf_J h) (h1 : sf_J1 (sf_jf h')) : sf_J h' := by
  unfold sf_J
  rw [eR, en]
  exact ⟨⟨h1, sf_J2_c (o _ _) (fun j => o _ j) (fun j => o _ j) hJ.1.2.1, sf_J3_c (o _ _) (o _ _) (fun j => o _ j) (fun j => o _ j) hJ.1.2.2.1, sf_J4_c (o _ _) hJ.1.2.2.2⟩, sf_JR_c (fun k j _ => o k j) hJ.2⟩
/-- a shape without corners and pieces -/
theorem sf_Jcl {h : mx_H} {j : Nat} (hJ : sf_J h) : sf_J (mx_uI (mx_uI h (.inr (j, 0)) 0 0) (.inr (j, 0)) 6 0) := by
  refine sf_Jg1 (h := h) (fun k i => (sf_jf_o (fun q => by cases q.1)).trans (sf_jf_o (fun q => by cases q.1))) rfl rfl hJ ?_
  intro j' k hk
  by_cases e : j' = j
  · subst e
    rw [sf_jfu (r := 385) rfl rfl, if_pos ⟨rfl, rfl⟩, show (0 : Int32).toInt = 0 from rfl] at hk
    omega
  · have n0 : ∀ o i, sf_jf (mx_uI (mx_uI h (.inr (j, 0)) 0 0) (.inr (j, 0)) 6 0) (.inr (j', o)) i = sf_jf h (.inr (j', o)) i := fun o i => (sf_jf_o (fun q => e (sf_ir q.1).1)).trans (sf_jf_o (fun q => e (sf_ir q.1).1))
    rw [n0] at hk
    rw [n0, n0, n0]
    exact hJ.1.1 j' k hk
/-- more corners -/
theorem sf_Jup {h : mx_H} {j : Nat} {v : Int32} (hJ : sf_J h) (hv : (h.2.1 (.inr (j, 0)) 0).toInt ≤ v.toInt) : sf_J (mx_uI h (.inr (j, 0)) 0 v) := by
  refine sf_Jg1 (h := h) (fun k i => sf_jf_o (fun q => by cases q.1)) rfl rfl hJ ?_
  intro j' k hk
  rw [sf_jf_o (fun q => by cases q.2)] at hk
  rw [sf_jf_o (b := .inr (j', 5)) (fun q => by have := (sf_ir q.1).2; omega), sf_jf_o (b := .inr (j', 6)) (fun q => by have := (sf_ir q.1).2; omega)]
  have p := hJ.1.1 j' k hk
  have e2 : sf_jf h (.inr (j', 0)) 0 ≤ sf_jf (mx_uI h (.inr (j, 0)) 0 v) (.inr (j', 0)) 0 := by
    by_cases e : j' = j
    · subst e
      rw [sf_jfu (r := 379) rfl rfl, if_pos ⟨rfl, rfl⟩, sf_jfr (r := 379) rfl rfl]
      exact hv
    · rw [sf_jf_o (fun q => e (sf_ir q.1).1)]
      exact Int.le_refl _
  exact ⟨Int.lt_of_lt_of_le p.1 e2, Int.lt_of_lt_of_le p.2 e2⟩
/-- what lies behind the pieces does not matter -/
theorem sf_Jat {h : mx_H} {j o i : Nat} {v : Int32} (ho : o = 5 ∨ o = 6) (hJ : sf_J h) (hi : (h.2.1 (.inr (j, 0)) 6).toInt ≤ i) : sf_J (mx_uI h (.inr (j, o)) i v) := by
  refine sf_Jg1 (h := h) (fun k i => sf_jf_o (fun q => by cases q.1)) rfl rfl hJ ?_
  have z : ∀ j' i', sf_jf (mx_uI h (.inr (j, o)) i v) (.inr (j', 0)) i' = sf_jf h (.inr (j', 0)) i' := fun j' i' => sf_jf_o (fun q => by have := (sf_ir q.1).2; omega)
  intro j' k hk
  rw [z] at hk
  have y : ∀ o', sf_jf (mx_uI h (.inr (j, o)) i v) (.inr (j', o')) k = sf_jf h (.inr (j', o')) k := fun o' => sf_jf_o (fun q => by
    have e1 := (sf_ir q.1).1
    subst e1
    rw [sf_jfr (r := 385) rfl rfl] at hk
    have := q.2
    omega)
  rw [z, y, y]
  exact hJ.1.1 j' k hk
/-- more pieces -/
theorem sf_Jpp {h : mx_H} {j : Nat} {v : Int32} (hJ : sf_J h) (hv : ∀ k : Nat, (h.2.1 (.inr (j, 0)) 6).toInt ≤ k → (k : Int) < v.toInt → (h.2.1 (.inr (j, 5)) k).toInt < (h.2.1 (.inr (j, 0)) 0).toInt ∧ (h.2.1 (.inr (j, 6)) k).toInt < (h.2.1 (.inr (j, 0)) 0).toInt) : sf_J (mx_uI h (.inr (j, 0)) 6 v) := by
  refine sf_Jg1 (h := h) (fun k i => sf_jf_o (fun q => by cases q.1)) rfl rfl hJ ?_
  intro j' k hk
  rw [sf_jf_o (b := .inr (j', 0)) (fun q => by cases q.2), sf_jf_o (b := .inr (j', 5)) (fun q => by have := (sf_ir q.1).2; omega), sf_jf_o (b := .inr (j', 6)) (fun q => by have := (sf_ir q.1).2; omega)]
  by_cases e : j' = j
  · subst e
    rw [sf_jfu (r := 385) rfl rfl, if_pos ⟨rfl, rfl⟩] at hk
    by_cases g : (k : Int) < (h.2.1 (.inr (j', 0)) 6).toInt
    · exact hJ.1.1 j' k (by rw [sf_jfr (r := 385) rfl rfl]; exact g)
    · have := hv k (by omega) hk
      rw [sf_jfr (a := .inr (j', 0)) (r := 379) rfl rfl, sf_jfr (a := .inr (j', 5)) (r := 396) rfl rfl, sf_jfr (a := .inr (j', 6)) (r := 397) rfl rfl]
      exact this
  · rw [sf_jf_o (fun q => e (sf_ir q.1).1)] at hk
    exact hJ.1.1 j' k hk
theorem sf_JwR {h : mx_H} {n i : Nat} {v : Int32} (hn : 105 ≤ n) (hJ : sf_J h) (hR : sf_JR (sf_jf (mx_uI h (.inl n) i v))) : sf_J (mx_uI h (.inl n) i v) :=
  ⟨sf_JC_c (fun k i hk => sf_jf_o (fun q => by have := Sum.inl.inj q.1; omega)) (fun q i => sf_jf_o (fun q => by cases q.1)) hJ.1, hR⟩
/-- what lies behind the shapes does not matter -/
theorem sf_Kb {h : mx_H} {n i : Nat} {v : Int32} (hI : sf_I h) (hn : n = 106 ∧ (h.2.1 (.inl 105) 1).toInt ≤ i ∨ n = 107 ∧ 6 * (h.2.1 (.inl 105) 1).toInt ≤ i ∨ (n = 111 ∨ n = 113) ∧ 36 * (h.2.1 (.inl 105) 1).toInt ≤ i) : sf_J (mx_uI h (.inl n) i v) := by
  have o : ∀ n' i', ¬ (n' = n ∧ i' = i) → sf_jf (mx_uI h (.inl n) i v) (.inl n') i' = sf_jf h (.inl n') i' := fun n' i' hne => sf_jf_o (fun q => hne ⟨Sum.inl.inj q.1, q.2⟩)
  obtain ⟨k1, k2, k3, k4, k5⟩ := hI.2.2.2
  have s0 : sf_jf h (.inl 105) 1 = (h.2.1 (.inl 105) 1).toInt := sf_jfr (r := 225) rfl rfl
  rw [← s0] at hn
  have c6 : ∀ s, sf_jf h (.inl 106) s ≤ 6 := fun s => by
    rw [sf_jfr (r := 318) rfl rfl]
    exact (sf_rd (r := 318) (lo := 0) (hi := 6) hI (.inl 106) s rfl rfl).2
  have e105 : ∀ i', sf_jf (mx_uI h (.inl n) i v) (.inl 105) i' = sf_jf h (.inl 105) i' := fun i' => o _ _ (by omega)
  refine sf_JwR (by omega) hI.2.2 ⟨?_, ?_, ?_, ?_, ?_⟩
  · unfold sf_K1 at *
    rw [e105, e105]
    refine ⟨k1.1, fun k hk => ?_⟩
    rw [o 123 k (by omega), o 124 k (by omega), o 125 k (by omega), o 126 k (by omega)]
    exact k1.2 k hk
  · intro s c hs hc
    rw [e105] at hs
    rw [o 106 s (by omega)] at hc
    have := c6 s
    rw [o 107 _ (by omega)]
    exact k2 s c hs hc
  · intro p hp h0
    rw [e105] at hp
    rw [o 113 p (by omega)] at h0
    rw [o 111 p (by omega)]
    exact k3 p hp h0
  · intro s a b hs ha hb
    rw [e105] at hs
    rw [o 113 _ (by omega), o 113 _ (by omega)]
    exact k4 s a b hs ha hb
  · intro b hb h0
    rw [e105] at hb
    rw [o 117 b (by omega)] at h0 ⊢
    obtain ⟨s, x, y, q1, q2, q3, q4, q5, q6⟩ := k5 b hb h0
    have := c6 s
    refine ⟨s, x, y, q1, ?_, ?_, ?_, q5, ?_⟩
    · rw [e105]
      exact q2
    · rw [o 106 s (by omega)]
      exact q3
    · rw [o 106 s (by omega)]
      exact q4
    · rw [o 113 _ (by omega)]
      exact q6
theorem sf_cl {x : Int32} (h0 : 0 ≤ x.toInt) : ((x.toNatClampNeg : Nat) : Int) = x.toInt := by
  show ((x.toInt.toNat : Nat) : Int) = _
  omega
theorem sf_Kb106 {h : mx_H} {x v : Int32} (hI : sf_I h) (hx : (h.2.1 (.inl 105) 1).toInt ≤ x.toInt) : sf_J (mx_uI h (.inl 106) x.toNatClampNeg v) := by
  have := (sf_rd (r := 225) (lo := 0) (hi := 12) hI (.inl 105) 1 rfl rfl).1
  refine sf_Kb hI (Or.inl ⟨rfl, ?_⟩)
  rw [sf_cl (by omega)]
  exact hx
theorem sf_Kb107 {h : mx_H} {x v : Int32} (hI : sf_I h) (hx : 6 * (h.2.1 (.inl 105) 1).toInt ≤ x.toInt) : sf_J (mx_uI h (.inl 107) x.toNatClampNeg v) := by
  have := (sf_rd (r := 225) (lo := 0) (hi := 12) hI (.inl 105) 1 rfl rfl).1
  refine sf_Kb hI (Or.inr (Or.inl ⟨rfl, ?_⟩))
  rw [sf_cl (by omega)]
  exact hx
theorem sf_Kb111 {h : mx_H} {x v : Int32} (hI : sf_I h) (hx : 36 * (h.2.1 (.inl 105) 1).toInt ≤ x.toInt) : sf_J (mx_uI h (.inl 111) x.toNatClampNeg v) := by
  have := (sf_rd (r := 225) (lo := 0) (hi := 12) hI (.inl 105) 1 rfl rfl).1
  refine sf_Kb hI (Or.inr (Or.inr ⟨Or.inl rfl, ?_⟩))
  rw [sf_cl (by omega)]
  exact hx
theorem sf_Kb113 {h : mx_H} {x v : Int32} (hI : sf_I h) (hx : 36 * (h.2.1 (.inl 105) 1).toInt ≤ x.toInt) : sf_J (mx_uI h (.inl 113) x.toNatClampNeg v) := by
  have := (sf_rd (r := 225) (lo := 0) (hi := 12) hI (.inl 105) 1 rfl rfl).1
  refine sf_Kb hI (Or.inr (Or.inr ⟨Or.inr rfl, ?_⟩))
  rw [sf_cl (by omega)]
  exact hx
/-! ===== class: a further piece ===== -/
theorem sf_ro {h : mx_H} {a b : mx_A} {i k : Nat} {v : Int32} (q : ¬ b = a) : (mx_uI h a i v).2.1 b k = h.2.1 b k := if_neg (fun e => q e.1)
theorem sf_roi {h : mx_H} {a b : mx_A} {i k : Nat} {v : Int32} (q : ¬ k = i) : (mx_uI h a i v).2.1 b k = h.2.1 b k := if_neg (fun e => q e.2)
theorem sf_rs {h : mx_H} {a : mx_A} {i : Nat} {v : Int32} : (mx_uI h a i v).2.1 a i = v := if_pos ⟨rfl, rfl⟩
theorem sf_r5 {h : mx_H} {j j' i k : Nat} {v : Int32} : (mx_uI h (.inr (j, 5)) i v).2.1 (.inr (j', 0)) k = h.2.1 (.inr (j', 0)) k := sf_ro (fun q => by have := (sf_ir q).2; omega)
theorem sf_r6 {h : mx_H} {j j' i k : Nat} {v : Int32} : (mx_uI h (.inr (j, 6)) i v).2.1 (.inr (j', 0)) k = h.2.1 (.inr (j', 0)) k := sf_ro (fun q => by have := (sf_ir q).2; omega)
theorem sf_r7 {h : mx_H} {j j' i k : Nat} {v : Int32} : (mx_uI h (.inr (j, 7)) i v).2.1 (.inr (j', 0)) k = h.2.1 (.inr (j', 0)) k := sf_ro (fun q => by have := (sf_ir q).2; omega)
theorem sf_r8 {h : mx_H} {j j' i k : Nat} {v : Int32} : (mx_uI h (.inr (j, 8)) i v).2.1 (.inr (j', 0)) k = h.2.1 (.inr (j', 0)) k := sf_ro (fun q => by have := (sf_ir q).2; omega)
theorem sf_oo {j j' o o' : Nat} (q : ¬ o = o') : ¬ (Sum.inr (j, o) : mx_A) = .inr (j', o') := fun e => q (sf_ir e).2
section SFP
variable {E : mx_Ev} {d : Nat} {h : mx_H} {Q : Option mx_V → mx_H → Prop}
theorem sf63 {t0 : Nat} {a1 a2 a3 : Int32} (pa1 : sf_iv 0 5 a1) (pa2 : sf_iv 0 5 a2) (pa3 : sf_iv 0 9 a3) (r0 : a1.toInt < (h.2.1 (.inr (t0, 0)) 0).toInt) (r1 : a2.toInt < (h.2.1 (.inr (t0, 0)) 0).toInt) (hI : sf_I h) (hQ : ∀ h', sf_I h' → sf_E 2420938064718869591760848781833023919411709340255937974172079043343665637084331614386515347232638986802440836980431388672 h h' → ((h.2.1 (.inr (t0, 0)) 6).toInt < 15 → (h'.2.1 (.inr (t0, 0)) 6).toInt = (h.2.1 (.inr (t0, 0)) 6).toInt + 1) → Q none h') : mx_C E (mx_fn true) (d + 1) 63 [.inr (.inr (t0, 0)), .inl (.int a1), .inl (.int a2), .inl (.int a3)] h Q := by
  obtain ⟨N, hN, hs⟩ := sf_of (b := 15) (sf_rd (r := 385) (lo := 0) (hi := 15) hI (.inr (t0, 0)) 6 rfl rfl)
  refine sg63_0 ⟨fun g => ?_, fun g => hQ _ hI (sf_E0 _ _) (fun q => absurd (Int32.lt_iff_toInt_lt.mpr q) g)⟩
  have hN5 : N < 15 := by
    rw [hs] at g
    have := Int32.lt_iff_toInt_lt.mp g
    rw [nI_toInt (by omega), show (15 : Int32).toInt = 15 from rfl] at this
    omega
  simp only [sf_r5, sf_r6, sf_r7, sf_r8]
  have hv : vp_in (h.2.1 (.inr (t0, 0)) 6) 15 := by
    rw [hs]
    exact vp_in_nI hN5 (by decide +kernel)
  have hc : (h.2.1 (.inr (t0, 0)) 6).toNatClampNeg = N := by
    rw [hs]
    exact nI_clamp (by omega)
  have hp : (h.2.1 (.inr (t0, 0)) 6).toInt = N := by
    rw [hs]
    exact nI_toInt (by omega)
  refine ⟨hv, hv, hv, hv, ?_⟩
  rw [hc]
  generalize hm1 : (if a2 < a1 then a2 else a1) = m1
  generalize hm2 : (if a1 < a2 then a2 else a1) = m2
  have q1 : sf_iv 0 5 m1 ∧ m1.toInt < (h.2.1 (.inr (t0, 0)) 0).toInt := by
    subst hm1
    by_cases c : a2 < a1
    · rw [if_pos c]
      exact ⟨pa2, r1⟩
    · rw [if_neg c]
      exact ⟨pa1, r0⟩
  have q2 : sf_iv 0 5 m2 ∧ m2.toInt < (h.2.1 (.inr (t0, 0)) 0).toInt := by
    subst hm2
    by_cases c : a1 < a2
    · rw [if_pos c]
      exact ⟨pa2, r1⟩
    · rw [if_neg c]
      exact ⟨pa1, r0⟩
  have I1 : sf_I (mx_uI h (.inr (t0, 5)) N m1) := sf_uJ (r := 396) hI rfl q1.1 (by decide +kernel) (sf_Jat (Or.inl rfl) hI.2.2 (by omega))
  have I2 : sf_I (mx_uI (mx_uI h (.inr (t0, 5)) N m1) (.inr (t0, 6)) N m2) := sf_uJ (r := 397) I1 rfl q2.1 (by decide +kernel) (sf_Jat (Or.inr rfl) I1.2.2 (by rw [sf_r5]; omega))
  have I3 : sf_I (mx_uI (mx_uI (mx_uI h (.inr (t0, 5)) N m1) (.inr (t0, 6)) N m2) (.inr (t0, 7)) N a3) := sf_uI (r := 398) I2 rfl pa3 (by decide +kernel)
  have I4 : sf_I (mx_uI (mx_uI (mx_uI (mx_uI h (.inr (t0, 5)) N m1) (.inr (t0, 6)) N m2) (.inr (t0, 7)) N a3) (.inr (t0, 8)) N 0) := sf_uI (r := 399) I3 rfl ivk_0 (by decide +kernel)
  have e5 : ((mx_uI (mx_uI (mx_uI (mx_uI h (.inr (t0, 5)) N m1) (.inr (t0, 6)) N m2) (.inr (t0, 7)) N a3) (.inr (t0, 8)) N 0).2.1 (.inr (t0, 5)) N) = m1 := by
    rw [sf_ro (sf_oo (by decide +kernel)), sf_ro (sf_oo (by decide +kernel)), sf_ro (sf_oo (by decide +kernel)), sf_rs]
  have e6 : ((mx_uI (mx_uI (mx_uI (mx_uI h (.inr (t0, 5)) N m1) (.inr (t0, 6)) N m2) (.inr (t0, 7)) N a3) (.inr (t0, 8)) N 0).2.1 (.inr (t0, 6)) N) = m2 := by
    rw [sf_ro (sf_oo (by decide +kernel)), sf_ro (sf_oo (by decide +kernel)), sf_rs]
  have I5 : sf_I (mx_uI (mx_uI (mx_uI (mx_uI (mx_uI h (.inr (t0, 5)) N m1) (.inr (t0, 6)) N m2) (.inr (t0, 7)) N a3) (.inr (t0, 8)) N 0) (.inr (t0, 0)) 6 (h.2.1 (.inr (t0, 0)) 6 + 1)) := by
    refine sf_uJ (r := 385) (lo := 0) (hi := 15) I4 rfl ?_ (by decide +kernel) (sf_Jpp I4.2.2 ?_)
    · rw [hs, nI_1]
      exact sf_nI (by omega) (by decide +kernel)
    · intro k hk1 hk2
      rw [sf_r8, sf_r7, sf_r6, sf_r5, hp] at hk1
      rw [hs, nI_1, nI_toInt (by omega)] at hk2
      have : k = N := by omega
      subst this
      rw [e5, e6, sf_r8, sf_r7, sf_r6, sf_r5]
      exact ⟨q1.2, q2.2⟩
  refine hQ _ I5 (sf_Eu (r := 385) rfl (by decide +kernel) (sf_Eu (r := 399) rfl (by decide +kernel) (sf_Eu (r := 398) rfl (by decide +kernel) (sf_Eu (r := 397) rfl (by decide +kernel) (sf_Eu (r := 396) rfl (by decide +kernel) (sf_E0 _ _)))))) (fun _ => ?_)
  rw [sf_rs, hs, nI_1, nI_toInt (by omega), nI_toInt (by omega)]
  omega
end SFP
/-! ===== reference: setPiece, setStiff, exactly ===== -/
theorem nI_divn {n k : Nat} (hn : n < 2 ^ 31) (hk : 0 < k) (hk2 : k < 2 ^ 31) : nI n / nI k = nI (n / k) := by
  apply Int32.toInt_inj.mp
  rw [li_div (a := 0) (b := 2147483647) (k := (k : Int)) (X := (n : Int)) (x := nI n) (y := nI k) ⟨by rw [nI_toInt hn]; omega, by rw [nI_toInt hn]; omega⟩ (by simp only [Bool.and_eq_true, decide_eq_true_eq]; omega) (nI_toInt hn) (nI_toInt hk2), nI_toInt (Nat.lt_of_le_of_lt (Nat.div_le_self n k) hn)]
  exact (Int.natCast_ediv n k).symm
theorem nI_subn {a b : Nat} (h : b ≤ a) : nI a - nI b = nI (a - b) := by
  have e : nI a = nI (a - b) + nI b := by
    rw [nI_add]
    congr 1
    omega
  rw [e, Int32.add_sub_cancel]
theorem nI_36 (a b c : Nat) : 36 * nI a + 6 * nI b + nI c = nI (36 * a + 6 * b + c) := by
  rw [show (6 : Int32) = nI 6 from rfl, show (36 : Int32) = nI 36 from rfl, nI_mul, nI_mul, nI_add, nI_add]
def sx_p (h : mx_H) (p : Nat) (b s c : Int32) : mx_H := mx_uI (mx_uI (mx_uI h (.inl 113) p b) (.inl 111) p s) (.inl 112) p c
section SXS
variable {E : mx_Ev} {d : Nat} {h : mx_H} {Q : Option mx_V → mx_H → Prop}
theorem sx181 {S A B : Nat} {a4 a5 a6 : Int32} (hS : S ≤ 12) (hA : A ≤ 5) (hB : B ≤ 5) (hQ : Q none (sx_p (sx_p h (36 * S + 6 * A + B) (a4 + 1) a5 a6) (36 * S + 6 * B + A) (a4 + 1) a5 a6)) : mx_C E (mx_fn true) (d + 1) 181 [.inr (.inl 105), .inl (.int (nI S)), .inl (.int (nI A)), .inl (.int (nI B)), .inl (.int a4), .inl (.int a5), .inl (.int a6)] h Q := by
  refine sg181_0 (sg181_3 ⟨fun g => absurd g (by decide +kernel), fun _ => ⟨fun g => absurd rfl g, fun _ => sg179_0 (hx_i ?_)⟩⟩)
  rw [nI_36]
  have v1 : vp_in (nI (36 * S + 6 * A + B)) 468 := vp_in_nI (by omega) (by decide +kernel)
  refine ⟨v1, v1, v1, sg181_3 ⟨fun g => absurd g (by decide +kernel), fun _ => ⟨fun _ => sg179_0 (hx_i ?_), fun g => absurd (by decide +kernel) g⟩⟩⟩
  rw [nI_36]
  have v2 : vp_in (nI (36 * S + 6 * B + A)) 468 := vp_in_nI (by omega) (by decide +kernel)
  refine ⟨v2, v2, v2, sg181_3 ⟨fun _ => ?_, fun g => absurd (by decide +kernel) g⟩⟩
  rw [nI_clamp (by omega), nI_clamp (by omega)]
  exact hQ
theorem sx199 {S A B : Nat} {a2 a3 : Int32} (hS : S ≤ 12) (hA : A ≤ 5) (hB : B ≤ 5) (hQ : Q none (sx_p (sx_p h (36 * S + 6 * A + B) (h.2.1 (.inl 113) (36 * S + 6 * A + B)) a2 a3) (36 * S + 6 * B + A) (h.2.1 (.inl 113) (36 * S + 6 * A + B)) a2 a3)) : mx_C E (mx_fn true) (d + 2) 199 [.inr (.inl 105), .inl (.int (nI (36 * S + 6 * A + B))), .inl (.int a2), .inl (.int a3)] h Q := by
  refine sg199_0 ⟨by decide +kernel, by decide +kernel, by decide +kernel, by decide +kernel, vp_in_nI (by omega) (by decide +kernel), ?_⟩
  have e1 : nI (36 * S + 6 * A + B) / 36 = nI S := by
    rw [show (36 : Int32) = nI 36 from rfl, nI_divn (by omega) (by decide +kernel) (by decide +kernel)]
    congr 1
    omega
  have e2 : nI (36 * S + 6 * A + B) / 6 = nI (6 * S + A) := by
    rw [show (6 : Int32) = nI 6 from rfl, nI_divn (by omega) (by decide +kernel) (by decide +kernel)]
    congr 1
    omega
  have e3 : nI (6 * S + A) - nI (6 * S + A) / 6 * 6 = nI A := by
    rw [show (6 : Int32) = nI 6 from rfl, nI_divn (by omega) (by decide +kernel) (by decide +kernel), nI_mul, nI_subn (by omega)]
    congr 1
    omega
  have e4 : nI (36 * S + 6 * A + B) - nI (6 * S + A) * 6 = nI B := by
    rw [show (6 : Int32) = nI 6 from rfl, nI_mul, nI_subn (by omega)]
    congr 1
    omega
  rw [e1, e2, e3, e4, nI_clamp (by omega)]
  refine sx181 hS hA hB (hx_n ?_)
  rw [show h.2.1 (.inl 113) (36 * S + 6 * A + B) - 1 + 1 = h.2.1 (.inl 113) (36 * S + 6 * A + B) from Int32.sub_add_cancel _ _]
  exact hQ
end SXS
/-! what the reference's cells say, behind a write to them -/
theorem sf_JRo {h : mx_H} {n i : Nat} {v : Int32} : ∀ n' i', ¬ (n' = n ∧ i' = i) → sf_jf (mx_uI h (.inl n) i v) (.inl n') i' = sf_jf h (.inl n') i' := fun n' i' hne => sf_jf_o (fun q => hne ⟨Sum.inl.inj q.1, q.2⟩)
theorem sf_r1 {h : mx_H} {i : Nat} : sf_jf h (.inl 113) i = (h.2.1 (.inl 113) i).toInt := sf_jfr (r := 325) rfl rfl
theorem sf_r2 {h : mx_H} {i : Nat} : sf_jf h (.inl 111) i = (h.2.1 (.inl 111) i).toInt := sf_jfr (r := 323) rfl rfl
/-- a piece told anew: the same body, still stiff -/
theorem sf_Kp {h : mx_H} {p : Nat} {b s c : Int32} (hI : sf_I h) (hb : h.2.1 (.inl 113) p = b) (ps : sf_iv 0 9 s) (pc : sf_iv 0 9 c) (hs : 0 < b.toInt → 1 ≤ s.toInt) : sf_I (sx_p h p b s c) := by
  have e : mx_uI h (.inl 113) p b = h := by
    have e1 : mx_up h.2.1 (.inl 113) p b = h.2.1 := by
      funext a i
      unfold mx_up
      by_cases q : a = .inl 113 ∧ i = p
      · rw [if_pos q, q.1, q.2, hb]
      · rw [if_neg q]
    show (h.1, mx_up h.2.1 (.inl 113) p b, h.2.2.1, h.2.2.2) = h
    rw [e1]
  unfold sx_p
  rw [e]
  refine sf_uI (r := 324) (sf_uJ (r := 323) hI rfl ps (by decide +kernel) (sf_JwR (by decide +kernel) hI.2.2 ?_)) rfl pc (by decide +kernel)
  obtain ⟨k1, k2, k3, k4, k5⟩ := hI.2.2.2
  have o : ∀ n' i', n' ≠ 111 → sf_jf (mx_uI h (.inl 111) p s) (.inl n') i' = sf_jf h (.inl n') i' := fun n' i' hne => sf_JRo n' i' (by omega)
  refine ⟨?_, ?_, ?_, ?_, ?_⟩
  · unfold sf_K1 at *
    simp only [o 105 _ (by decide +kernel), o 123 _ (by decide +kernel), o 124 _ (by decide +kernel), o 125 _ (by decide +kernel), o 126 _ (by decide +kernel)]
    exact k1
  · intro s' c' q1 q2
    rw [o _ _ (by decide +kernel)] at q1 q2 ⊢
    exact k2 s' c' q1 q2
  · intro p' q1 q2
    rw [o _ _ (by decide +kernel)] at q1 q2
    by_cases e : p' = p
    · subst e
      rw [sf_r1, hb] at q2
      rw [sf_r2, sf_rs]
      exact hs q2
    · rw [sf_JRo _ _ (by omega)]
      exact k3 p' q1 q2
  · intro s' a' b' q1 q2 q3
    rw [o _ _ (by decide +kernel)] at q1
    rw [o _ _ (by decide +kernel), o _ _ (by decide +kernel)]
    exact k4 s' a' b' q1 q2 q3
  · unfold sf_K5 at *
    simp only [o 105 _ (by decide +kernel), o 106 _ (by decide +kernel), o 113 _ (by decide +kernel), o 117 _ (by decide +kernel)]
    exact k5
/-! ===== reference: the acts kept, and pieces told anew ===== -/
theorem sf_Kbp {h : mx_H} {p : Nat} {b s c : Int32} (hI : sf_I h) (pb : sf_iv 0 201 b) (ps : sf_iv 0 9 s) (pc : sf_iv 0 9 c) (hp : 36 * (h.2.1 (.inl 105) 1).toInt ≤ p) : sf_I (sx_p h p b s c) := by
  have I1 : sf_I (mx_uI h (.inl 113) p b) := sf_uJ (r := 325) hI rfl pb (by decide +kernel) (sf_Kb hI (Or.inr (Or.inr ⟨Or.inr rfl, hp⟩)))
  have I2 : sf_I (mx_uI (mx_uI h (.inl 113) p b) (.inl 111) p s) := sf_uJ (r := 323) I1 rfl ps (by decide +kernel) (sf_Kb I1 (Or.inr (Or.inr ⟨Or.inl rfl, hp⟩)))
  exact sf_uI (r := 324) I2 rfl pc (by decide +kernel)
theorem sf_Ep {m : Nat} {h h' : mx_H} {p : Nat} {b s c : Int32} (h1 : m.testBit 325 = true) (h2 : m.testBit 323 = true) (h3 : m.testBit 324 = true) (hE : sf_E m h h') : sf_E m h (sx_p h' p b s c) := sf_Eu (r := 324) rfl h3 (sf_Eu (r := 323) rfl h2 (sf_Eu (r := 325) rfl h1 hE))
theorem sf199 {E : mx_Ev} {d : Nat} {h : mx_H} {Q : Option mx_V → mx_H → Prop} {a1 a2 a3 : Int32} (pa1 : sf_iv 0 467 a1) (pa2 : sf_iv 0 9 a2) (pa3 : sf_iv 0 9 a3) (r0 : 36 * (h.2.1 (.inl 105) 1).toInt ≤ a1.toInt ∨ (h.2.1 (.inl 113) a1.toNatClampNeg).toInt ≤ 0 ∨ 1 ≤ a2.toInt) (hI : sf_I h) (hQ : ∀ h', sf_I h' → sf_E 119615274011570964614121215545494918417751453251972555117034330038044304643715870801285876868448256 h h' → Q none h') : mx_C E (mx_fn true) (d + 2) 199 [.inr (.inl 105), .inl (.int a1), .inl (.int a2), .inl (.int a3)] h Q := by
  obtain ⟨p, hp, rfl⟩ := sf_of (b := 467) pa1
  rw [nI_clamp (by omega), nI_toInt (by omega)] at r0
  obtain ⟨S, A, B, hS, hA, hB, rfl⟩ : ∃ S A B : Nat, S ≤ 12 ∧ A ≤ 5 ∧ B ≤ 5 ∧ p = 36 * S + 6 * A + B := ⟨p / 36, p / 6 % 6, p % 6, by omega, by omega, by omega, by omega⟩
  refine sx199 hS hA hB (hQ _ ?_ (sf_Ep (by decide +kernel) (by decide +kernel) (by decide +kernel) (sf_Ep (by decide +kernel) (by decide +kernel) (by decide +kernel) (sf_E0 _ _))))
  have n0 := sf_rd (r := 225) (lo := 0) (hi := 12) hI (.inl 105) 1 rfl rfl
  have pb := sf_rd (r := 325) (lo := 0) (hi := 201) hI (.inl 113) (36 * S + 6 * A + B) rfl rfl
  by_cases c : (S : Int) < (h.2.1 (.inl 105) 1).toInt
  · have k4 : h.2.1 (.inl 113) (36 * S + 6 * B + A) = h.2.1 (.inl 113) (36 * S + 6 * A + B) := by
      have := hI.2.2.2.2.2.2.1 S B A (by rw [sf_jfr (r := 225) rfl rfl]; exact c) (by omega) (by omega)
      rw [sf_r1, sf_r1] at this
      exact Int32.toInt_inj.mp this
    have hs : 0 < (h.2.1 (.inl 113) (36 * S + 6 * A + B)).toInt → 1 ≤ a2.toInt := fun q => by omega
    have I1 := sf_Kp (p := 36 * S + 6 * A + B) hI rfl pa2 pa3 hs
    refine sf_Kp I1 ?_ pa2 pa3 hs
    unfold sx_p
    rw [sf_ro (by decide +kernel), sf_ro (by decide +kernel)]
    by_cases q : 36 * S + 6 * B + A = 36 * S + 6 * A + B
    · rw [q, sf_rs]
    · rw [sf_roi q, k4]
  · have I1 := sf_Kbp (p := 36 * S + 6 * A + B) hI pb pa2 pa3 (by omega)
    exact sf_Kbp I1 pb pa2 pa3 (show 36 * (h.2.1 (.inl 105) 1).toInt ≤ _ by omega)
/-- only the acts' cells differ -/
theorem sf_Jk1 {h h' : mx_H} (o : ∀ n i, n ≠ 105 ∧ n ≠ 123 ∧ n ≠ 124 ∧ n ≠ 125 ∧ n ≠ 126 ∨ n = 105 ∧ i ≠ 24 ∧ i ≠ 25 → sf_jf h' (.inl n) i = sf_jf h (.inl n) i) (o2 : ∀ q i, sf_jf h' (.inr q) i = sf_jf h (.inr q) i) (eR : h'.2.2.2 = h.2.2.2) (en : h'.1 = h.1) (hJ : sf_J h) (h1 : sf_K1 (sf_jf h')) : sf_J h' := by
  unfold sf_J
  rw [eR, en]
  obtain ⟨hC, k1, k2, k3, k4, k5⟩ := hJ
  refine ⟨sf_JC_c (fun k i hk => o k i (by omega)) o2 hC, h1, ?_, ?_, ?_, ?_⟩
  · unfold sf_K2 at *
    simp only [o 105 1 (by decide +kernel), o 106 _ (by simp), o 107 _ (by simp)]
    exact k2
  · unfold sf_K3 at *
    simp only [o 105 1 (by decide +kernel), o 113 _ (by simp), o 111 _ (by simp)]
    exact k3
  · unfold sf_K4 at *
    simp only [o 105 1 (by decide +kernel), o 113 _ (by simp)]
    exact k4
  · unfold sf_K5 at *
    simp only [o 105 1 (by decide +kernel), o 105 12 (by decide +kernel), o 106 _ (by simp), o 113 _ (by simp), o 117 _ (by simp)]
    exact k5
theorem sf_10 {h : mx_H} {i : Nat} (hi : i = 24 ∨ i = 25) : sf_jf h (.inl 105) i = (h.2.1 (.inl 105) i).toInt := by
  rcases hi with rfl | rfl
  · exact sf_jfr (r := 248) rfl rfl
  · exact sf_jfr (r := 249) rfl rfl
theorem sf_K1s {h : mx_H} {u v : Int32} (hJ : sf_J h) (hs : u.toInt + v.toInt ≤ (h.2.1 (.inl 105) 24).toInt + (h.2.1 (.inl 105) 25).toInt) : sf_J (mx_uI (mx_uI h (.inl 105) 24 u) (.inl 105) 25 v) := by
  have o : ∀ n i, ¬ (n = 105 ∧ (i = 24 ∨ i = 25)) → sf_jf (mx_uI (mx_uI h (.inl 105) 24 u) (.inl 105) 25 v) (.inl n) i = sf_jf h (.inl n) i := fun n i hn => (sf_JRo _ _ (by omega)).trans (sf_JRo _ _ (by omega))
  refine sf_Jk1 (h := h) (fun n i hn => o n i (by omega)) (fun q i => (sf_jf_o (fun q => by cases q.1)).trans (sf_jf_o (fun q => by cases q.1))) rfl rfl hJ ?_
  have k1 := hJ.2.1
  unfold sf_K1 at *
  rw [sf_10 (Or.inl rfl), sf_10 (Or.inr rfl)] at *
  rw [show (mx_uI (mx_uI h (.inl 105) 24 u) (.inl 105) 25 v).2.1 (.inl 105) 24 = u from rfl, show (mx_uI (mx_uI h (.inl 105) 24 u) (.inl 105) 25 v).2.1 (.inl 105) 25 = v from rfl]
  refine ⟨by omega, fun k hk => ?_⟩
  rw [o _ _ (by omega), o _ _ (by omega), o _ _ (by omega), o _ _ (by omega)]
  exact k1.2 k (by omega)
theorem sf_K1d {h : mx_H} {i : Nat} {u : Int32} (hi : i = 24 ∨ i = 25) (hJ : sf_J h) (hs : u.toInt ≤ (h.2.1 (.inl 105) i).toInt) : sf_J (mx_uI h (.inl 105) i u) := by
  have o : ∀ n i', ¬ (n = 105 ∧ i' = i) → sf_jf (mx_uI h (.inl 105) i u) (.inl n) i' = sf_jf h (.inl n) i' := fun n i' hn => sf_JRo _ _ hn
  refine sf_Jk1 (h := h) (fun n i hn => o n i (by omega)) (fun q i => sf_jf_o (fun q => by cases q.1)) rfl rfl hJ ?_
  have k1 := hJ.2.1
  have a : sf_jf (mx_uI h (.inl 105) i u) (.inl 105) 24 + sf_jf (mx_uI h (.inl 105) i u) (.inl 105) 25 ≤ sf_jf h (.inl 105) 24 + sf_jf h (.inl 105) 25 := by
    rcases hi with rfl | rfl
    · rw [o 105 25 (by omega), sf_10 (Or.inl rfl), sf_10 (h := h) (Or.inl rfl), sf_rs]
      omega
    · rw [o 105 24 (by omega), sf_10 (Or.inr rfl), sf_10 (h := h) (i := 25) (Or.inr rfl), sf_rs]
      omega
  refine ⟨Int.le_trans a k1.1, fun k hk => ?_⟩
  rw [o _ _ (by omega), o _ _ (by omega), o _ _ (by omega), o _ _ (by omega)]
  exact k1.2 k (Int.lt_of_lt_of_le hk a)
/-- behind the acts told nothing matters -/
theorem sf_K1at {h : mx_H} {n : Nat} {x v : Int32} (hn : n = 123 ∨ n = 124 ∨ n = 125 ∨ n = 126) (hI : sf_I h) (hs : (h.2.1 (.inl 105) 24).toInt + (h.2.1 (.inl 105) 25).toInt ≤ x.toInt) : sf_J (mx_uI h (.inl n) x.toNatClampNeg v) := by
  have z1 := (sf_rd (r := 248) (lo := 0) (hi := 40) hI (.inl 105) 24 rfl rfl).1
  have z2 := (sf_rd (r := 249) (lo := 0) (hi := 40) hI (.inl 105) 25 rfl rfl).1
  have hx := sf_cl (x := x) (by omega)
  have o : ∀ n' i', ¬ (n' = n ∧ i' = x.toNatClampNeg) → sf_jf (mx_uI h (.inl n) x.toNatClampNeg v) (.inl n') i' = sf_jf h (.inl n') i' := fun n' i' hn => sf_JRo _ _ hn
  refine sf_Jk1 (h := h) (fun n' i hn' => o n' i (by omega)) (fun q i => sf_jf_o (fun q => by cases q.1)) rfl rfl hI.2.2 ?_
  have k1 := hI.2.2.2.1
  unfold sf_K1 at *
  rw [o 105 _ (by omega), o 105 _ (by omega)]
  refine ⟨k1.1, fun k hk => ?_⟩
  have hk' := hk
  rw [sf_10 (Or.inl rfl), sf_10 (Or.inr rfl)] at hk'
  rw [o _ _ (by omega), o _ _ (by omega), o _ _ (by omega), o _ _ (by omega)]
  exact k1.2 k hk
theorem sf_k1x {h : mx_H} {k : Int32} (hI : sf_I h) (h0 : 0 ≤ k.toInt) (hk : k.toInt < (h.2.1 (.inl 105) 24).toInt + (h.2.1 (.inl 105) 25).toInt) : ((h.2.1 (.inl 123) k.toNatClampNeg).toInt = 3 ∨ (h.2.1 (.inl 123) k.toNatClampNeg).toInt = 4 ∨ (h.2.1 (.inl 124) k.toNatClampNeg).toInt < 78) ∧ (¬ (h.2.1 (.inl 123) k.toNatClampNeg).toInt = 4 ∧ ¬ (h.2.1 (.inl 123) k.toNatClampNeg).toInt = 5 ∨ 1 ≤ (h.2.1 (.inl 125) k.toNatClampNeg).toInt ∧ 1 ≤ (h.2.1 (.inl 126) k.toNatClampNeg).toInt) := by
  have h3 := hI.2.2.2.1.2 k.toNatClampNeg (by rw [sf_10 (Or.inl rfl), sf_10 (Or.inr rfl), sf_cl h0]; exact hk)
  rw [sf_jfr (a := .inl 123) (r := 335) rfl rfl, sf_jfr (a := .inl 124) (r := 336) rfl rfl, sf_jfr (a := .inl 125) (r := 337) rfl rfl, sf_jfr (a := .inl 126) (r := 338) rfl rfl] at h3
  omega
theorem sf_k1s {h : mx_H} (hI : sf_I h) : (h.2.1 (.inl 105) 24).toInt + (h.2.1 (.inl 105) 25).toInt ≤ 40 := by
  have h3 := hI.2.2.2.1.1
  rw [sf_10 (Or.inl rfl), sf_10 (Or.inr rfl)] at h3
  exact h3
/-- an act moved to another place -/
theorem sf_K1mv {h : mx_H} {x y : Int32} (hI : sf_I h) (h0 : 0 ≤ y.toInt) (hy : y.toInt < (h.2.1 (.inl 105) 24).toInt + (h.2.1 (.inl 105) 25).toInt) : sf_J (mx_uI (mx_uI (mx_uI (mx_uI h (.inl 123) x.toNatClampNeg (h.2.1 (.inl 123) y.toNatClampNeg)) (.inl 124) x.toNatClampNeg (h.2.1 (.inl 124) y.toNatClampNeg)) (.inl 125) x.toNatClampNeg (h.2.1 (.inl 125) y.toNatClampNeg)) (.inl 126) x.toNatClampNeg (h.2.1 (.inl 126) y.toNatClampNeg)) := by
  generalize hg : (mx_uI (mx_uI (mx_uI (mx_uI h (.inl 123) x.toNatClampNeg (h.2.1 (.inl 123) y.toNatClampNeg)) (.inl 124) x.toNatClampNeg (h.2.1 (.inl 124) y.toNatClampNeg)) (.inl 125) x.toNatClampNeg (h.2.1 (.inl 125) y.toNatClampNeg)) (.inl 126) x.toNatClampNeg (h.2.1 (.inl 126) y.toNatClampNeg)) = h'
  have o : ∀ n i, ¬ ((n = 123 ∨ n = 124 ∨ n = 125 ∨ n = 126) ∧ i = x.toNatClampNeg) → sf_jf h' (.inl n) i = sf_jf h (.inl n) i := fun n i hn => by
    subst hg
    exact (sf_JRo _ _ (by omega)).trans ((sf_JRo _ _ (by omega)).trans ((sf_JRo _ _ (by omega)).trans (sf_JRo _ _ (by omega))))
  have e1 : h'.2.1 (.inl 123) x.toNatClampNeg = h.2.1 (.inl 123) y.toNatClampNeg := by
    subst hg
    rw [sf_ro (by decide +kernel), sf_ro (by decide +kernel), sf_ro (by decide +kernel), sf_rs]
  have e2 : h'.2.1 (.inl 124) x.toNatClampNeg = h.2.1 (.inl 124) y.toNatClampNeg := by
    subst hg
    rw [sf_ro (by decide +kernel), sf_ro (by decide +kernel), sf_rs]
  have e3 : h'.2.1 (.inl 125) x.toNatClampNeg = h.2.1 (.inl 125) y.toNatClampNeg := by
    subst hg
    rw [sf_ro (by decide +kernel), sf_rs]
  have e4 : h'.2.1 (.inl 126) x.toNatClampNeg = h.2.1 (.inl 126) y.toNatClampNeg := by
    subst hg
    rw [sf_rs]
  have k1 := hI.2.2.2.1
  have kx := sf_k1x hI h0 hy
  refine sf_Jk1 (h := h) (fun n i hn => o n i (by omega)) (fun q i => by subst hg; exact (sf_jf_o (fun q => by cases q.1)).trans ((sf_jf_o (fun q => by cases q.1)).trans ((sf_jf_o (fun q => by cases q.1)).trans (sf_jf_o (fun q => by cases q.1))))) (by subst hg; rfl) (by subst hg; rfl) hI.2.2 ?_
  unfold sf_K1 at *
  rw [o 105 _ (by omega), o 105 _ (by omega)]
  refine ⟨k1.1, fun k hk => ?_⟩
  by_cases e : k = x.toNatClampNeg
  · subst e
    rw [sf_jfr (a := .inl 123) (r := 335) rfl rfl, sf_jfr (a := .inl 124) (r := 336) rfl rfl, sf_jfr (a := .inl 125) (r := 337) rfl rfl, sf_jfr (a := .inl 126) (r := 338) rfl rfl, e1, e2, e3, e4]
    omega
  · rw [o _ _ (by omega), o _ _ (by omega), o _ _ (by omega), o _ _ (by omega)]
    exact k1.2 k hk
/-- one act more -/
theorem sf_K1pp {h : mx_H} {x1 x2 x3 x4 v : Int32} (hI : sf_I h) (q1 : x1.toInt = (h.2.1 (.inl 105) 24).toInt) (q2 : x2.toInt = (h.2.1 (.inl 105) 24).toInt) (q3 : x3.toInt = (h.2.1 (.inl 105) 24).toInt) (q4 : x4.toInt = (h.2.1 (.inl 105) 24).toInt) (qv : v.toInt = (h.2.1 (.inl 105) 24).toInt + 1) (qu : (h.2.1 (.inl 105) 25).toInt ≤ 0) (qd : (h.2.1 (.inl 105) 24).toInt < 40)
    (c1 : (h.2.1 (.inl 123) x1.toNatClampNeg).toInt = 3 ∨ (h.2.1 (.inl 123) x1.toNatClampNeg).toInt = 4 ∨ (h.2.1 (.inl 124) x2.toNatClampNeg).toInt < 78) (c2 : ¬ (h.2.1 (.inl 123) x1.toNatClampNeg).toInt = 4 ∧ ¬ (h.2.1 (.inl 123) x1.toNatClampNeg).toInt = 5 ∨ 1 ≤ (h.2.1 (.inl 125) x3.toNatClampNeg).toInt ∧ 1 ≤ (h.2.1 (.inl 126) x4.toNatClampNeg).toInt) : sf_J (mx_uI h (.inl 105) 24 v) := by
  have z1 := (sf_rd (r := 248) (lo := 0) (hi := 40) hI (.inl 105) 24 rfl rfl).1
  have z2 := (sf_rd (r := 249) (lo := 0) (hi := 40) hI (.inl 105) 25 rfl rfl).1
  have e2 : x2 = x1 := Int32.toInt_inj.mp (q2.trans q1.symm)
  have e3 : x3 = x1 := Int32.toInt_inj.mp (q3.trans q1.symm)
  have e4 : x4 = x1 := Int32.toInt_inj.mp (q4.trans q1.symm)
  rw [e2] at c1
  rw [e3, e4] at c2
  have hx := sf_cl (x := x1) (by omega)
  have o : ∀ n i, ¬ (n = 105 ∧ i = 24) → sf_jf (mx_uI h (.inl 105) 24 v) (.inl n) i = sf_jf h (.inl n) i := fun n i hn => sf_JRo _ _ hn
  refine sf_Jk1 (h := h) (fun n i hn => o n i (by omega)) (fun q i => sf_jf_o (fun q => by cases q.1)) rfl rfl hI.2.2 ?_
  have k1 := hI.2.2.2.1
  unfold sf_K1 at *
  rw [sf_10 (Or.inl rfl), sf_10 (Or.inr rfl)] at *
  rw [show (mx_uI h (.inl 105) 24 v).2.1 (.inl 105) 24 = v from rfl, show (mx_uI h (.inl 105) 24 v).2.1 (.inl 105) 25 = h.2.1 (.inl 105) 25 from rfl]
  refine ⟨by omega, fun k hk => ?_⟩
  rw [o _ _ (by omega), o _ _ (by omega), o _ _ (by omega), o _ _ (by omega)]
  by_cases e : k = x1.toNatClampNeg
  · subst e
    rw [sf_jfr (a := .inl 123) (r := 335) rfl rfl, sf_jfr (a := .inl 124) (r := 336) rfl rfl, sf_jfr (a := .inl 125) (r := 337) rfl rfl, sf_jfr (a := .inl 126) (r := 338) rfl rfl]
    omega
  · exact k1.2 k (by omega)
/-- a corner stays heavy -/
theorem sf_K2w {h : mx_H} {i : Nat} {v : Int32} (hJ : sf_J h) (hv : 1 ≤ v.toInt) : sf_J (mx_uI h (.inl 107) i v) := by
  have o : ∀ n i', ¬ (n = 107 ∧ i' = i) → sf_jf (mx_uI h (.inl 107) i v) (.inl n) i' = sf_jf h (.inl n) i' := fun n i' hn => sf_JRo _ _ hn
  obtain ⟨hC, k1, k2, k3, k4, k5⟩ := hJ
  refine sf_JwR (by decide +kernel) ⟨hC, k1, k2, k3, k4, k5⟩ ⟨?_, ?_, ?_, ?_, ?_⟩
  · unfold sf_K1 at *
    simp only [o 105 _ (by simp), o 123 _ (by simp), o 124 _ (by simp), o 125 _ (by simp), o 126 _ (by simp)]
    exact k1
  · intro s c q1 q2
    rw [o _ _ (by omega)] at q1 q2
    by_cases e : 6 * s + c = i
    · rw [sf_jfr (r := 319) rfl rfl, e, sf_rs]
      exact hv
    · rw [o _ _ (by omega)]
      exact k2 s c q1 q2
  · unfold sf_K3 at *
    simp only [o 105 _ (by simp), o 113 _ (by simp), o 111 _ (by simp)]
    exact k3
  · unfold sf_K4 at *
    simp only [o 105 _ (by simp), o 113 _ (by simp)]
    exact k4
  · unfold sf_K5 at *
    simp only [o 105 _ (by simp), o 106 _ (by simp), o 113 _ (by simp), o 117 _ (by simp)]
    exact k5
theorem sf_k2x {h : mx_H} {x s c : Int32} (hI : sf_I h) (s0 : 0 ≤ s.toInt) (hs : s.toInt < (h.2.1 (.inl 105) 1).toInt) (c0 : 0 ≤ c.toInt) (hc : c.toInt < (h.2.1 (.inl 106) s.toNatClampNeg).toInt) (hx : x.toInt = 6 * s.toInt + c.toInt) : 1 ≤ (h.2.1 (.inl 107) x.toNatClampNeg).toInt := by
  have k2 := hI.2.2.2.2.1 s.toNatClampNeg c.toNatClampNeg (by rw [sf_jfr (r := 225) rfl rfl, sf_cl s0]; exact hs) (by rw [sf_jfr (r := 318) rfl rfl, sf_cl c0]; exact hc)
  rw [sf_jfr (r := 319) rfl rfl] at k2
  have e : x.toNatClampNeg = 6 * s.toNatClampNeg + c.toNatClampNeg := by
    have e1 := sf_cl s0
    have e2 := sf_cl c0
    have e3 := sf_cl (x := x) (by omega)
    omega
  rw [e]
  exact k2
theorem sf_k3x {h : mx_H} {x : Int32} (hI : sf_I h) (x0 : 0 ≤ x.toInt) : 36 * (h.2.1 (.inl 105) 1).toInt ≤ x.toInt ∨ (h.2.1 (.inl 113) x.toNatClampNeg).toInt ≤ 0 ∨ 1 ≤ (h.2.1 (.inl 111) x.toNatClampNeg).toInt := by
  have k3 := hI.2.2.2.2.2.1 x.toNatClampNeg
  rw [sf_r1, sf_r2, sf_jfr (r := 225) rfl rfl, sf_cl x0] at k3
  omega
/-! ===== class: references to shapes, and the history ===== -/
theorem sf_uR {h : mx_H} {n i : Nat} {v : Option mx_A} (hI : sf_I h) (hn : n = 85 ∨ n = 92) (hv : ∀ b, v = some b → ∃ j, b = .inr (j, 0)) : sf_I (mx_uR h (.inl n) i v) := by
  refine ⟨hI.1, fun a k b hs hb => ?_, ⟨⟨hI.2.2.1.1, hI.2.2.1.2.1, hI.2.2.1.2.2.1, ?_⟩, hI.2.2.2⟩⟩
  · by_cases q : a = .inl n ∧ k = i
    · exact hv b ((show (mx_uR h (.inl n) i v).2.2.2 a k = v from if_pos q).symm.trans hb)
    · exact hI.2.1 a k b hs ((show (mx_uR h (.inl n) i v).2.2.2 a k = h.2.2.2 a k from if_neg q).symm.trans hb)
  · obtain ⟨m, h1, h2, h3, h4⟩ := hI.2.2.1.2.2.2
    refine ⟨m, ?_, h2, h3, fun k j hk => h4 k j ?_⟩
    · exact (if_neg (fun q => by have := Sum.inl.inj q.1; omega)).trans h1
    · exact (show (mx_uR h (.inl n) i v).2.2.2 (.inl 3) k = h.2.2.2 (.inl 3) k from if_neg (fun q => by have := Sum.inl.inj q.1; omega)).symm.trans hk
theorem sf_ER {m : Nat} {h h' : mx_H} {a : mx_A} {i r : Nat} {v : Option mx_A} (e : sf_rr a = r) (hb : m.testBit r = true) (hE : sf_E m h h') : sf_E m h (mx_uR h' a i v) := by
  subst e
  refine ⟨hE.1, fun b j hf => ?_, hE.2.2⟩
  have q : ¬ (b = a ∧ j = i) := fun q => by
    rw [q.1, hb] at hf
    cases hf
  exact (if_neg q).trans (hE.2.1 b j hf)
theorem sf_vs {j : Nat} : ∀ b, (some (.inr (j, 0)) : Option mx_A) = some b → ∃ j, b = .inr (j, 0) := fun b e => ⟨j, (Option.some.inj e).symm⟩
theorem sf_vn : ∀ b, (none : Option mx_A) = some b → ∃ j, b = .inr (j, 0) := fun b e => nomatch e
theorem sf_Jg3 {h h' : mx_H} (o : ∀ n i, n ≠ 84 ∧ n ≠ 86 ∧ n ≠ 87 → sf_jf h' (.inl n) i = sf_jf h (.inl n) i) (o2 : ∀ q i, sf_jf h' (.inr q) i = sf_jf h (.inr q) i) (eR : h'.2.2.2 = h.2.2.2) (en : h'.1 = h.1) (hJ : sf_J h) (h3 : sf_J3 (sf_jf h')) : sf_J h' := by
  unfold sf_J
  rw [eR, en]
  exact ⟨⟨sf_J1_c (fun j q i _ => o2 (j, q) i) hJ.1.1, sf_J2_c (o _ _ (by decide +kernel)) (fun j => o _ j (by decide +kernel)) (fun j => o _ j (by decide +kernel)) hJ.1.2.1, h3, sf_J4_c (o _ _ (by decide +kernel)) hJ.1.2.2.2⟩, sf_JR_c (fun k j hk => o k j (by omega)) hJ.2⟩
theorem sf_84 {h : mx_H} {i : Nat} (hi : i = 0 ∨ i = 1) : sf_jf h (.inl 84) i = (h.2.1 (.inl 84) i).toInt := by
  rcases hi with rfl | rfl
  · exact sf_jfr (r := 190) rfl rfl
  · exact sf_jfr (r := 191) rfl rfl
theorem sf_J3s {h : mx_H} {u v : Int32} (hJ : sf_J h) (hs : u.toInt + v.toInt ≤ (h.2.1 (.inl 84) 0).toInt + (h.2.1 (.inl 84) 1).toInt) : sf_J (mx_uI (mx_uI h (.inl 84) 0 u) (.inl 84) 1 v) := by
  have o : ∀ n i, n ≠ 84 → sf_jf (mx_uI (mx_uI h (.inl 84) 0 u) (.inl 84) 1 v) (.inl n) i = sf_jf h (.inl n) i := fun n i hn => (sf_jf_o (fun q => hn (Sum.inl.inj q.1))).trans (sf_jf_o (fun q => hn (Sum.inl.inj q.1)))
  refine sf_Jg3 (h := h) (fun n i hn => o n i hn.1) (fun q i => (sf_jf_o (fun q => by cases q.1)).trans (sf_jf_o (fun q => by cases q.1))) rfl rfl hJ ?_
  have h3 := hJ.1.2.2.1
  unfold sf_J3 at *
  rw [sf_84 (Or.inl rfl), sf_84 (Or.inr rfl)] at *
  rw [show (mx_uI (mx_uI h (.inl 84) 0 u) (.inl 84) 1 v).2.1 (.inl 84) 0 = u from rfl, show (mx_uI (mx_uI h (.inl 84) 0 u) (.inl 84) 1 v).2.1 (.inl 84) 1 = v from rfl]
  refine ⟨by omega, fun k hk => ?_⟩
  rw [o _ _ (by decide +kernel), o _ _ (by decide +kernel)]
  exact h3.2 k (by omega)
theorem sf_J3d {h : mx_H} {u : Int32} (hJ : sf_J h) (hs : u.toInt ≤ (h.2.1 (.inl 84) 0).toInt) : sf_J (mx_uI h (.inl 84) 0 u) := by
  have o : ∀ n i, n ≠ 84 → sf_jf (mx_uI h (.inl 84) 0 u) (.inl n) i = sf_jf h (.inl n) i := fun n i hn => sf_jf_o (fun q => hn (Sum.inl.inj q.1))
  refine sf_Jg3 (h := h) (fun n i hn => o n i hn.1) (fun q i => sf_jf_o (fun q => by cases q.1)) rfl rfl hJ ?_
  have h3 := hJ.1.2.2.1
  unfold sf_J3 at *
  rw [sf_84 (Or.inl rfl), sf_84 (Or.inr rfl)] at *
  rw [show (mx_uI h (.inl 84) 0 u).2.1 (.inl 84) 0 = u from rfl, show (mx_uI h (.inl 84) 0 u).2.1 (.inl 84) 1 = h.2.1 (.inl 84) 1 from rfl]
  refine ⟨by omega, fun k hk => ?_⟩
  rw [o _ _ (by decide +kernel), o _ _ (by decide +kernel)]
  exact h3.2 k (by omega)
/-- an act of one place laid into another -/
theorem sf_J3w {h : mx_H} {i : Nat} {u v : Int32} (hJ : sf_J h) (hp : u.toInt ≤ 3 → v.toInt ≤ 5) : sf_J (mx_uI (mx_uI h (.inl 86) i u) (.inl 87) i v) := by
  have o : ∀ n k, n ≠ 86 ∧ n ≠ 87 ∨ k ≠ i → sf_jf (mx_uI (mx_uI h (.inl 86) i u) (.inl 87) i v) (.inl n) k = sf_jf h (.inl n) k := fun n k hn => (sf_jf_o (fun q => by have := Sum.inl.inj q.1; have := q.2; omega)).trans (sf_jf_o (fun q => by have := Sum.inl.inj q.1; have := q.2; omega))
  refine sf_Jg3 (h := h) (fun n i hn => o n i (by omega)) (fun q i => (sf_jf_o (fun q => by cases q.1)).trans (sf_jf_o (fun q => by cases q.1))) rfl rfl hJ ?_
  have h3 := hJ.1.2.2.1
  refine ⟨?_, fun k hk q => ?_⟩
  · rw [o _ _ (by omega), o _ _ (by omega)]
    exact h3.1
  · rw [o 84 _ (by omega), o 84 _ (by omega)] at hk
    by_cases e : k = i
    · subst e
      rw [sf_jfr (r := 198) rfl rfl, sf_ro (by decide +kernel), sf_rs] at q
      rw [sf_jfr (r := 199) rfl rfl, sf_rs]
      exact hp q
    · rw [o _ _ (Or.inr e)] at q ⊢
      exact h3.2 k hk q
theorem sf_j3x {h : mx_H} {k : Int32} (hI : sf_I h) (h0 : 0 ≤ k.toInt) (hk : k.toInt < (h.2.1 (.inl 84) 0).toInt + (h.2.1 (.inl 84) 1).toInt) : 4 ≤ (h.2.1 (.inl 86) k.toNatClampNeg).toInt ∨ (h.2.1 (.inl 87) k.toNatClampNeg).toInt ≤ 5 := by
  have h3 := hI.2.2.1.2.2.1.2 k.toNatClampNeg (by rw [sf_84 (Or.inl rfl), sf_84 (Or.inr rfl), sf_cl h0]; exact hk)
  rw [sf_jfr (r := 198) rfl rfl, sf_jfr (r := 199) rfl rfl] at h3
  by_cases q : (h.2.1 (.inl 86) k.toNatClampNeg).toInt ≤ 3
  · exact Or.inr (h3 q)
  · exact Or.inl (by omega)
theorem sf_J3mv {h : mx_H} {x y : Int32} (hI : sf_I h) (h0 : 0 ≤ y.toInt) (hy : y.toInt < (h.2.1 (.inl 84) 0).toInt + (h.2.1 (.inl 84) 1).toInt) : sf_J (mx_uI (mx_uI h (.inl 86) x.toNatClampNeg (h.2.1 (.inl 86) y.toNatClampNeg)) (.inl 87) x.toNatClampNeg (h.2.1 (.inl 87) y.toNatClampNeg)) :=
  sf_J3w hI.2.2 (fun q => by have := sf_j3x hI h0 hy; omega)
theorem sf_j3s {h : mx_H} (hI : sf_I h) : (h.2.1 (.inl 84) 0).toInt + (h.2.1 (.inl 84) 1).toInt ≤ 40 := by
  have h3 := hI.2.2.1.2.2.1.1
  rw [sf_84 (Or.inl rfl), sf_84 (Or.inr rfl)] at h3
  exact h3
/-! ===== methods that end and keep their bounds: written by program, checked by Lean ===== -/
set_option maxRecDepth 10000 in
theorem sf18_2 {E : mx_Ev} {d : Nat} {Q : Option mx_V → mx_H → Prop} {h0 : mx_H} (hQ : ∀ h', sf_I h' → sf_E 173291855882550928723650886508942731464777317210988535948154973788419859324793006500201873698302358792763012971903269828451893248 h0 h' → ((h').2.1 (.inl 84) 0 : Int32).toInt ≤ 39 → Q none h') : ∀ (n : Nat) {a1 : Int32} {h : mx_H}, (2147483647 - a1.toInt).toNat < n → sf_iv 1 40 a1 → 40 ≤ (h.2.1 (.inl 84) 0 : Int32).toInt → sf_I h → sf_E 173291855882550928723650886508942731464777317210988535948154973788419859324793006500201873698302358792763012971903269828451893248 h0 h → mx_T E (mx_fn true) d 0 0 18 2 [(0, .inr (.inl 84)), (1, .inl (.int a1))] [] h Q
  | 0, _, _, hm, _, _, _, _ => absurd hm (Nat.not_lt_zero _)
  | n + 1, a1, h, hm, pa1, r0, hI, hE => sg18_2 ⟨fun g1338 => hQ _ (sf_uJ (r := 190) hI rfl ivk_39 (by decide +kernel) (sf_J3d hI.2.2 (show (39 : Int32).toInt ≤ (h.2.1 (.inl 84) 0 : Int32).toInt from (by have ⟨b1340, b1340_⟩ := (show sf_iv 40 40 a1 from (iv_w (c := 40) (d := 40) (iv_ler g1338 ivk_40 pa1) (by decide +kernel))); have ⟨b1341, b1341_⟩ := (show sf_iv 0 40 (h.2.1 (.inl 84) 0) from (srd_190_84_0 hI)); have f1342 := r0; have f1343 := li_le g1338 ivt_40 (show (a1 : Int32).toInt = (a1).toInt from rfl); have e1339 := ivt_39; omega)))) (sf_Eu (r := 190) rfl (by decide +kernel) hE) (show ((mx_uI h (.inl 84) 0 39).2.1 (.inl 84) 0 : Int32).toInt ≤ 39 from (by have e1344 := (show ((mx_uI h (.inl 84) 0 39).2.1 (.inl 84) 0 : Int32).toInt = 39 from (li_s rfl)); omega)), fun g1349 => ⟨(iv_in (iv_w (c := 1) (d := 39) (iv_ltl (Int32.not_le.mp g1349) pa1 ivk_40) (by decide +kernel)) (by decide +kernel)), fun j1350 q1351 => ⟨(iv_in (iv_sub (lo := 0) (hi := 38) (iv_w (c := 1) (d := 39) (iv_ltl (Int32.not_le.mp g1349) pa1 ivk_40) (by decide +kernel)) ivk_1 (by decide +kernel)) (by decide +kernel)), rfl, ⟨(iv_in (iv_w (c := 1) (d := 39) (iv_ltl (Int32.not_le.mp g1349) pa1 ivk_40) (by decide +kernel)) (by decide +kernel)), ⟨(iv_in (iv_sub (lo := 0) (hi := 38) (iv_w (c := 1) (d := 39) (iv_ltl (Int32.not_le.mp g1349) pa1 ivk_40) (by decide +kernel)) ivk_1 (by decide +kernel)) (by decide +kernel)), ⟨(iv_in (iv_w (c := 1) (d := 39) (iv_ltl (Int32.not_le.mp g1349) pa1 ivk_40) (by decide +kernel)) (by decide +kernel)), ⟨(iv_in (iv_sub (lo := 0) (hi := 38) (iv_w (c := 1) (d := 39) (iv_ltl (Int32.not_le.mp g1349) pa1 ivk_40) (by decide +kernel)) ivk_1 (by decide +kernel)) (by decide +kernel)), ⟨(iv_in (iv_w (c := 1) (d := 39) (iv_ltl (Int32.not_le.mp g1349) pa1 ivk_40) (by decide +kernel)) (by decide +kernel)), ⟨(iv_in (iv_sub (lo := 0) (hi := 38) (iv_w (c := 1) (d := 39) (iv_ltl (Int32.not_le.mp g1349) pa1 ivk_40) (by decide +kernel)) ivk_1 (by decide +kernel)) (by decide +kernel)), ⟨(iv_in (iv_w (c := 1) (d := 39) (iv_ltl (Int32.not_le.mp g1349) pa1 ivk_40) (by decide +kernel)) (by decide +kernel)), ⟨(iv_in (iv_sub (lo := 0) (hi := 38) (iv_w (c := 1) (d := 39) (iv_ltl (Int32.not_le.mp g1349) pa1 ivk_40) (by decide +kernel)) ivk_1 (by decide +kernel)) (by decide +kernel)), sf18_2 hQ  n (iv_up hm (iv_w (c := 1) (d := 39) (iv_ltl (Int32.not_le.mp g1349) pa1 ivk_40) (by decide +kernel)) (by decide +kernel))  (iv_w (c := 1) (d := 40) (iv_add (lo := 2) (hi := 40) (iv_w (c := 1) (d := 39) (iv_ltl (Int32.not_le.mp g1349) pa1 ivk_40) (by decide +kernel)) ivk_1 (by decide +kernel)) (by decide +kernel)) (show 40 ≤ ((mx_uI (mx_uI (mx_uI (mx_uI h (.inl 86) (Int32.toNatClampNeg (a1 - 1)) (h.2.1 (.inl 86) (Int32.toNatClampNeg a1))) (.inl 87) (Int32.toNatClampNeg (a1 - 1)) ((mx_uI h (.inl 86) (Int32.toNatClampNeg (a1 - 1)) (h.2.1 (.inl 86) (Int32.toNatClampNeg a1))).2.1 (.inl 87) (Int32.toNatClampNeg a1))) (.inl 88) (Int32.toNatClampNeg (a1 - 1)) ((mx_uI (mx_uI h (.inl 86) (Int32.toNatClampNeg (a1 - 1)) (h.2.1 (.inl 86) (Int32.toNatClampNeg a1))) (.inl 87) (Int32.toNatClampNeg (a1 - 1)) ((mx_uI h (.inl 86) (Int32.toNatClampNeg (a1 - 1)) (h.2.1 (.inl 86) (Int32.toNatClampNeg a1))).2.1 (.inl 87) (Int32.toNatClampNeg a1))).2.1 (.inl 88) (Int32.toNatClampNeg a1))) (.inl 89) (Int32.toNatClampNeg (a1 - 1)) ((mx_uI (mx_uI (mx_uI h (.inl 86) (Int32.toNatClampNeg (a1 - 1)) (h.2.1 (.inl 86) (Int32.toNatClampNeg a1))) (.inl 87) (Int32.toNatClampNeg (a1 - 1)) ((mx_uI h (.inl 86) (Int32.toNatClampNeg (a1 - 1)) (h.2.1 (.inl 86) (Int32.toNatClampNeg a1))).2.1 (.inl 87) (Int32.toNatClampNeg a1))) (.inl 88) (Int32.toNatClampNeg (a1 - 1)) ((mx_uI (mx_uI h (.inl 86) (Int32.toNatClampNeg (a1 - 1)) (h.2.1 (.inl 86) (Int32.toNatClampNeg a1))) (.inl 87) (Int32.toNatClampNeg (a1 - 1)) ((mx_uI h (.inl 86) (Int32.toNatClampNeg (a1 - 1)) (h.2.1 (.inl 86) (Int32.toNatClampNeg a1))).2.1 (.inl 87) (Int32.toNatClampNeg a1))).2.1 (.inl 88) (Int32.toNatClampNeg a1))).2.1 (.inl 89) (Int32.toNatClampNeg a1))).2.1 (.inl 84) 0 : Int32).toInt from (by have ⟨b1376, b1376_⟩ := (show sf_iv 1 39 a1 from (iv_w (c := 1) (d := 39) (iv_ltl (Int32.not_le.mp g1349) pa1 ivk_40) (by decide +kernel))); have ⟨b1377, b1377_⟩ := (show sf_iv 0 40 (h.2.1 (.inl 84) 0) from (srd_190_84_0 hI)); have f1378 := r0; have f1379 := li_lt (Int32.not_le.mp g1349) (show (a1 : Int32).toInt = (a1).toInt from rfl) ivt_40; have e1375 := (show ((mx_uI (mx_uI (mx_uI (mx_uI h (.inl 86) (Int32.toNatClampNeg (a1 - 1)) (h.2.1 (.inl 86) (Int32.toNatClampNeg a1))) (.inl 87) (Int32.toNatClampNeg (a1 - 1)) ((mx_uI h (.inl 86) (Int32.toNatClampNeg (a1 - 1)) (h.2.1 (.inl 86) (Int32.toNatClampNeg a1))).2.1 (.inl 87) (Int32.toNatClampNeg a1))) (.inl 88) (Int32.toNatClampNeg (a1 - 1)) ((mx_uI (mx_uI h (.inl 86) (Int32.toNatClampNeg (a1 - 1)) (h.2.1 (.inl 86) (Int32.toNatClampNeg a1))) (.inl 87) (Int32.toNatClampNeg (a1 - 1)) ((mx_uI h (.inl 86) (Int32.toNatClampNeg (a1 - 1)) (h.2.1 (.inl 86) (Int32.toNatClampNeg a1))).2.1 (.inl 87) (Int32.toNatClampNeg a1))).2.1 (.inl 88) (Int32.toNatClampNeg a1))) (.inl 89) (Int32.toNatClampNeg (a1 - 1)) ((mx_uI (mx_uI (mx_uI h (.inl 86) (Int32.toNatClampNeg (a1 - 1)) (h.2.1 (.inl 86) (Int32.toNatClampNeg a1))) (.inl 87) (Int32.toNatClampNeg (a1 - 1)) ((mx_uI h (.inl 86) (Int32.toNatClampNeg (a1 - 1)) (h.2.1 (.inl 86) (Int32.toNatClampNeg a1))).2.1 (.inl 87) (Int32.toNatClampNeg a1))) (.inl 88) (Int32.toNatClampNeg (a1 - 1)) ((mx_uI (mx_uI h (.inl 86) (Int32.toNatClampNeg (a1 - 1)) (h.2.1 (.inl 86) (Int32.toNatClampNeg a1))) (.inl 87) (Int32.toNatClampNeg (a1 - 1)) ((mx_uI h (.inl 86) (Int32.toNatClampNeg (a1 - 1)) (h.2.1 (.inl 86) (Int32.toNatClampNeg a1))).2.1 (.inl 87) (Int32.toNatClampNeg a1))).2.1 (.inl 88) (Int32.toNatClampNeg a1))).2.1 (.inl 89) (Int32.toNatClampNeg a1))).2.1 (.inl 84) 0 : Int32).toInt = (h.2.1 (.inl 84) 0).toInt from (li_o (by decide +kernel) (li_o (by decide +kernel) (li_o (by decide +kernel) (li_o (by decide +kernel) rfl))))); omega)) (sf_uI (r := 201) (sf_uI (r := 200) (sf_B.I (sf_uB (r := 199) (sf_uB (r := 198) (sf_uR (n := 85) hI (by decide +kernel) sf_vs).B rfl (srd_198_86_x hI (Int32.toNatClampNeg a1)) (by decide +kernel)) rfl (iv_o (by decide +kernel) (srd_199_87_x hI (Int32.toNatClampNeg a1))) (by decide +kernel)) (sf_J3mv (x := a1 - 1) (y := a1) (sf_uR (n := 85) hI (by decide +kernel) sf_vs) (show 0 ≤ (a1 : Int32).toInt from (by have ⟨b1366, b1366_⟩ := (show sf_iv 1 39 a1 from (iv_w (c := 1) (d := 39) (iv_ltl (Int32.not_le.mp g1349) pa1 ivk_40) (by decide +kernel))); have ⟨b1367, b1367_⟩ := (show sf_iv 0 40 (h.2.1 (.inl 84) 0) from (srd_190_84_0 hI)); have f1368 := r0; have f1369 := li_lt (Int32.not_le.mp g1349) (show (a1 : Int32).toInt = (a1).toInt from rfl) ivt_40; omega)) (show (a1 : Int32).toInt < (h.2.1 (.inl 84) 0 : Int32).toInt + (h.2.1 (.inl 84) 1 : Int32).toInt from (by have ⟨b1370, b1370_⟩ := (show sf_iv 1 39 a1 from (iv_w (c := 1) (d := 39) (iv_ltl (Int32.not_le.mp g1349) pa1 ivk_40) (by decide +kernel))); have ⟨b1371, b1371_⟩ := (show sf_iv 0 40 (h.2.1 (.inl 84) 0) from (srd_190_84_0 hI)); have ⟨b1372, b1372_⟩ := (show sf_iv 0 40 (h.2.1 (.inl 84) 1) from (srd_191_84_1 hI)); have f1373 := r0; have f1374 := li_lt (Int32.not_le.mp g1349) (show (a1 : Int32).toInt = (a1).toInt from rfl) ivt_40; omega)))) rfl (iv_o (by decide +kernel) (iv_o (by decide +kernel) (srd_200_88_x hI (Int32.toNatClampNeg a1)))) (by decide +kernel)) rfl (iv_o (by decide +kernel) (iv_o (by decide +kernel) (iv_o (by decide +kernel) (srd_201_89_x hI (Int32.toNatClampNeg a1))))) (by decide +kernel)) (sf_Eu (r := 201) rfl (by decide +kernel) (sf_Eu (r := 200) rfl (by decide +kernel) (sf_Eu (r := 199) rfl (by decide +kernel) (sf_Eu (r := 198) rfl (by decide +kernel) (sf_ER (r := 426) rfl (by decide +kernel) hE)))))⟩⟩⟩⟩⟩⟩⟩⟩⟩, fun q1351 => ⟨(iv_in (iv_sub (lo := 0) (hi := 38) (iv_w (c := 1) (d := 39) (iv_ltl (Int32.not_le.mp g1349) pa1 ivk_40) (by decide +kernel)) ivk_1 (by decide +kernel)) (by decide +kernel)), rfl, ⟨(iv_in (iv_w (c := 1) (d := 39) (iv_ltl (Int32.not_le.mp g1349) pa1 ivk_40) (by decide +kernel)) (by decide +kernel)), ⟨(iv_in (iv_sub (lo := 0) (hi := 38) (iv_w (c := 1) (d := 39) (iv_ltl (Int32.not_le.mp g1349) pa1 ivk_40) (by decide +kernel)) ivk_1 (by decide +kernel)) (by decide +kernel)), ⟨(iv_in (iv_w (c := 1) (d := 39) (iv_ltl (Int32.not_le.mp g1349) pa1 ivk_40) (by decide +kernel)) (by decide +kernel)), ⟨(iv_in (iv_sub (lo := 0) (hi := 38) (iv_w (c := 1) (d := 39) (iv_ltl (Int32.not_le.mp g1349) pa1 ivk_40) (by decide +kernel)) ivk_1 (by decide +kernel)) (by decide +kernel)), ⟨(iv_in (iv_w (c := 1) (d := 39) (iv_ltl (Int32.not_le.mp g1349) pa1 ivk_40) (by decide +kernel)) (by decide +kernel)), ⟨(iv_in (iv_sub (lo := 0) (hi := 38) (iv_w (c := 1) (d := 39) (iv_ltl (Int32.not_le.mp g1349) pa1 ivk_40) (by decide +kernel)) ivk_1 (by decide +kernel)) (by decide +kernel)), ⟨(iv_in (iv_w (c := 1) (d := 39) (iv_ltl (Int32.not_le.mp g1349) pa1 ivk_40) (by decide +kernel)) (by decide +kernel)), ⟨(iv_in (iv_sub (lo := 0) (hi := 38) (iv_w (c := 1) (d := 39) (iv_ltl (Int32.not_le.mp g1349) pa1 ivk_40) (by decide +kernel)) ivk_1 (by decide +kernel)) (by decide +kernel)), sf18_2 hQ  n (iv_up hm (iv_w (c := 1) (d := 39) (iv_ltl (Int32.not_le.mp g1349) pa1 ivk_40) (by decide +kernel)) (by decide +kernel))  (iv_w (c := 1) (d := 40) (iv_add (lo := 2) (hi := 40) (iv_w (c := 1) (d := 39) (iv_ltl (Int32.not_le.mp g1349) pa1 ivk_40) (by decide +kernel)) ivk_1 (by decide +kernel)) (by decide +kernel)) (show 40 ≤ ((mx_uI (mx_uI (mx_uI (mx_uI h (.inl 86) (Int32.toNatClampNeg (a1 - 1)) (h.2.1 (.inl 86) (Int32.toNatClampNeg a1))) (.inl 87) (Int32.toNatClampNeg (a1 - 1)) ((mx_uI h (.inl 86) (Int32.toNatClampNeg (a1 - 1)) (h.2.1 (.inl 86) (Int32.toNatClampNeg a1))).2.1 (.inl 87) (Int32.toNatClampNeg a1))) (.inl 88) (Int32.toNatClampNeg (a1 - 1)) ((mx_uI (mx_uI h (.inl 86) (Int32.toNatClampNeg (a1 - 1)) (h.2.1 (.inl 86) (Int32.toNatClampNeg a1))) (.inl 87) (Int32.toNatClampNeg (a1 - 1)) ((mx_uI h (.inl 86) (Int32.toNatClampNeg (a1 - 1)) (h.2.1 (.inl 86) (Int32.toNatClampNeg a1))).2.1 (.inl 87) (Int32.toNatClampNeg a1))).2.1 (.inl 88) (Int32.toNatClampNeg a1))) (.inl 89) (Int32.toNatClampNeg (a1 - 1)) ((mx_uI (mx_uI (mx_uI h (.inl 86) (Int32.toNatClampNeg (a1 - 1)) (h.2.1 (.inl 86) (Int32.toNatClampNeg a1))) (.inl 87) (Int32.toNatClampNeg (a1 - 1)) ((mx_uI h (.inl 86) (Int32.toNatClampNeg (a1 - 1)) (h.2.1 (.inl 86) (Int32.toNatClampNeg a1))).2.1 (.inl 87) (Int32.toNatClampNeg a1))) (.inl 88) (Int32.toNatClampNeg (a1 - 1)) ((mx_uI (mx_uI h (.inl 86) (Int32.toNatClampNeg (a1 - 1)) (h.2.1 (.inl 86) (Int32.toNatClampNeg a1))) (.inl 87) (Int32.toNatClampNeg (a1 - 1)) ((mx_uI h (.inl 86) (Int32.toNatClampNeg (a1 - 1)) (h.2.1 (.inl 86) (Int32.toNatClampNeg a1))).2.1 (.inl 87) (Int32.toNatClampNeg a1))).2.1 (.inl 88) (Int32.toNatClampNeg a1))).2.1 (.inl 89) (Int32.toNatClampNeg a1))).2.1 (.inl 84) 0 : Int32).toInt from (by have ⟨b1362, b1362_⟩ := (show sf_iv 1 39 a1 from (iv_w (c := 1) (d := 39) (iv_ltl (Int32.not_le.mp g1349) pa1 ivk_40) (by decide +kernel))); have ⟨b1363, b1363_⟩ := (show sf_iv 0 40 (h.2.1 (.inl 84) 0) from (srd_190_84_0 hI)); have f1364 := r0; have f1365 := li_lt (Int32.not_le.mp g1349) (show (a1 : Int32).toInt = (a1).toInt from rfl) ivt_40; have e1361 := (show ((mx_uI (mx_uI (mx_uI (mx_uI h (.inl 86) (Int32.toNatClampNeg (a1 - 1)) (h.2.1 (.inl 86) (Int32.toNatClampNeg a1))) (.inl 87) (Int32.toNatClampNeg (a1 - 1)) ((mx_uI h (.inl 86) (Int32.toNatClampNeg (a1 - 1)) (h.2.1 (.inl 86) (Int32.toNatClampNeg a1))).2.1 (.inl 87) (Int32.toNatClampNeg a1))) (.inl 88) (Int32.toNatClampNeg (a1 - 1)) ((mx_uI (mx_uI h (.inl 86) (Int32.toNatClampNeg (a1 - 1)) (h.2.1 (.inl 86) (Int32.toNatClampNeg a1))) (.inl 87) (Int32.toNatClampNeg (a1 - 1)) ((mx_uI h (.inl 86) (Int32.toNatClampNeg (a1 - 1)) (h.2.1 (.inl 86) (Int32.toNatClampNeg a1))).2.1 (.inl 87) (Int32.toNatClampNeg a1))).2.1 (.inl 88) (Int32.toNatClampNeg a1))) (.inl 89) (Int32.toNatClampNeg (a1 - 1)) ((mx_uI (mx_uI (mx_uI h (.inl 86) (Int32.toNatClampNeg (a1 - 1)) (h.2.1 (.inl 86) (Int32.toNatClampNeg a1))) (.inl 87) (Int32.toNatClampNeg (a1 - 1)) ((mx_uI h (.inl 86) (Int32.toNatClampNeg (a1 - 1)) (h.2.1 (.inl 86) (Int32.toNatClampNeg a1))).2.1 (.inl 87) (Int32.toNatClampNeg a1))) (.inl 88) (Int32.toNatClampNeg (a1 - 1)) ((mx_uI (mx_uI h (.inl 86) (Int32.toNatClampNeg (a1 - 1)) (h.2.1 (.inl 86) (Int32.toNatClampNeg a1))) (.inl 87) (Int32.toNatClampNeg (a1 - 1)) ((mx_uI h (.inl 86) (Int32.toNatClampNeg (a1 - 1)) (h.2.1 (.inl 86) (Int32.toNatClampNeg a1))).2.1 (.inl 87) (Int32.toNatClampNeg a1))).2.1 (.inl 88) (Int32.toNatClampNeg a1))).2.1 (.inl 89) (Int32.toNatClampNeg a1))).2.1 (.inl 84) 0 : Int32).toInt = (h.2.1 (.inl 84) 0).toInt from (li_o (by decide +kernel) (li_o (by decide +kernel) (li_o (by decide +kernel) (li_o (by decide +kernel) rfl))))); omega)) (sf_uI (r := 201) (sf_uI (r := 200) (sf_B.I (sf_uB (r := 199) (sf_uB (r := 198) (sf_uR (n := 85) hI (by decide +kernel) sf_vn).B rfl (srd_198_86_x hI (Int32.toNatClampNeg a1)) (by decide +kernel)) rfl (iv_o (by decide +kernel) (srd_199_87_x hI (Int32.toNatClampNeg a1))) (by decide +kernel)) (sf_J3mv (x := a1 - 1) (y := a1) (sf_uR (n := 85) hI (by decide +kernel) sf_vn) (show 0 ≤ (a1 : Int32).toInt from (by have ⟨b1352, b1352_⟩ := (show sf_iv 1 39 a1 from (iv_w (c := 1) (d := 39) (iv_ltl (Int32.not_le.mp g1349) pa1 ivk_40) (by decide +kernel))); have ⟨b1353, b1353_⟩ := (show sf_iv 0 40 (h.2.1 (.inl 84) 0) from (srd_190_84_0 hI)); have f1354 := r0; have f1355 := li_lt (Int32.not_le.mp g1349) (show (a1 : Int32).toInt = (a1).toInt from rfl) ivt_40; omega)) (show (a1 : Int32).toInt < (h.2.1 (.inl 84) 0 : Int32).toInt + (h.2.1 (.inl 84) 1 : Int32).toInt from (by have ⟨b1356, b1356_⟩ := (show sf_iv 1 39 a1 from (iv_w (c := 1) (d := 39) (iv_ltl (Int32.not_le.mp g1349) pa1 ivk_40) (by decide +kernel))); have ⟨b1357, b1357_⟩ := (show sf_iv 0 40 (h.2.1 (.inl 84) 0) from (srd_190_84_0 hI)); have ⟨b1358, b1358_⟩ := (show sf_iv 0 40 (h.2.1 (.inl 84) 1) from (srd_191_84_1 hI)); have f1359 := r0; have f1360 := li_lt (Int32.not_le.mp g1349) (show (a1 : Int32).toInt = (a1).toInt from rfl) ivt_40; omega)))) rfl (iv_o (by decide +kernel) (iv_o (by decide +kernel) (srd_200_88_x hI (Int32.toNatClampNeg a1)))) (by decide +kernel)) rfl (iv_o (by decide +kernel) (iv_o (by decide +kernel) (iv_o (by decide +kernel) (srd_201_89_x hI (Int32.toNatClampNeg a1))))) (by decide +kernel)) (sf_Eu (r := 201) rfl (by decide +kernel) (sf_Eu (r := 200) rfl (by decide +kernel) (sf_Eu (r := 199) rfl (by decide +kernel) (sf_Eu (r := 198) rfl (by decide +kernel) (sf_ER (r := 426) rfl (by decide +kernel) hE)))))⟩⟩⟩⟩⟩⟩⟩⟩⟩, sf_rt hI rfl⟩⟩
set_option maxRecDepth 10000 in
theorem sf18 {E : mx_Ev} {d : Nat} {h : mx_H} {Q : Option mx_V → mx_H → Prop}  (r0 : 40 ≤ (h.2.1 (.inl 84) 0 : Int32).toInt) (hI : sf_I h) (hQ : ∀ h', sf_I h' → sf_E 173291855882550928723650886508942731464777317210988535948154973788419859324793006500201873698302358792763012971903269828451893248 h h' → ((h').2.1 (.inl 84) 0 : Int32).toInt ≤ 39 → Q none h') : mx_C E (mx_fn true) d 18 [.inr (.inl 84)] h Q :=
  sg18_0 (sf18_2 hQ  _ (Nat.lt_succ_self _)  (iv_w (c := 1) (d := 40) ivk_1 (by decide +kernel)) (show 40 ≤ (h.2.1 (.inl 84) 0 : Int32).toInt from (by have ⟨b1380, b1380_⟩ := (show sf_iv 0 40 (h.2.1 (.inl 84) 0) from (srd_190_84_0 hI)); have f1381 := r0; omega)) hI (sf_E0 _ _))
set_option maxRecDepth 10000 in
theorem sf41 {E : mx_Ev} {d : Nat} {h : mx_H} {Q : Option mx_V → mx_H → Prop} {a1 : Int32} (pa1 : sf_iv 0 61 a1) (r0 : (h.2.1 (.inl 90) 3 : Int32).toInt ≤ 999) (hI : sf_I h) (hQ : ∀ h', sf_I h' → sf_E 874174296076890709894827378233592455772078428617839302403948544 h h' → ((h').2.1 (.inl 90) 3 : Int32).toInt ≤ (h.2.1 (.inl 90) 3 : Int32).toInt + 1 → Q none h') : mx_C E (mx_fn true) d 41 [.inr (.inl 90), .inl (.int a1)] h Q :=
  sg41_0 ⟨fun g6817 => hQ _ (sf_uI (r := 205) hI rfl (li_iv (lo := 0) (hi := 1000) (show ((h.2.1 (.inl 90) 3) + 1 : Int32).toInt = ((h.2.1 (.inl 90) 3).toInt + 1) from (li_add (iv_w (c := 24) (d := 1000) (iv_ler g6817 ivk_24 (srd_205_90_3 hI)) (by decide +kernel)) ivk_1 (by decide +kernel) rfl rfl)) (by have ⟨b6818, b6818_⟩ := (show sf_iv 24 1000 (h.2.1 (.inl 90) 3) from (iv_w (c := 24) (d := 1000) (iv_ler g6817 ivk_24 (srd_205_90_3 hI)) (by decide +kernel))); have f6819 := r0; have f6820 := li_le g6817 ivt_24 (show (h.2.1 (.inl 90) 3 : Int32).toInt = (h.2.1 (.inl 90) 3).toInt from rfl); omega)) (by decide +kernel)) (sf_Eu (r := 205) rfl (by decide +kernel) (sf_E0 _ _)) (show ((mx_uI h (.inl 90) 3 ((h.2.1 (.inl 90) 3) + 1)).2.1 (.inl 90) 3 : Int32).toInt ≤ (h.2.1 (.inl 90) 3 : Int32).toInt + 1 from (by have ⟨b6822, b6822_⟩ := (show sf_iv 24 1000 (h.2.1 (.inl 90) 3) from (iv_w (c := 24) (d := 1000) (iv_ler g6817 ivk_24 (srd_205_90_3 hI)) (by decide +kernel))); have f6823 := r0; have f6824 := li_le g6817 ivt_24 (show (h.2.1 (.inl 90) 3 : Int32).toInt = (h.2.1 (.inl 90) 3).toInt from rfl); have e6821 := (show ((mx_uI h (.inl 90) 3 ((h.2.1 (.inl 90) 3) + 1)).2.1 (.inl 90) 3 : Int32).toInt = ((h.2.1 (.inl 90) 3).toInt + 1) from (li_s (li_add (iv_w (c := 24) (d := 1000) (iv_ler g6817 ivk_24 (srd_205_90_3 hI)) (by decide +kernel)) ivk_1 (by decide +kernel) rfl rfl))); omega)), fun g6825 => ⟨(iv_in (iv_w (c := 0) (d := 23) (iv_ltl (Int32.not_le.mp g6825) (srd_205_90_3 hI) ivk_24) (by decide +kernel)) (by decide +kernel)), hQ _ (sf_uI (r := 205) (sf_uI (r := 209) hI rfl pa1 (by decide +kernel)) rfl (iv_add (lo := 1) (hi := 24) (iv_o (by decide +kernel) (iv_w (c := 0) (d := 23) (iv_ltl (Int32.not_le.mp g6825) (srd_205_90_3 hI) ivk_24) (by decide +kernel))) ivk_1 (by decide +kernel)) (by decide +kernel)) (sf_Eu (r := 205) rfl (by decide +kernel) (sf_Eu (r := 209) rfl (by decide +kernel) (sf_E0 _ _))) (show ((mx_uI (mx_uI h (.inl 93) (Int32.toNatClampNeg (h.2.1 (.inl 90) 3)) a1) (.inl 90) 3 (((mx_uI h (.inl 93) (Int32.toNatClampNeg (h.2.1 (.inl 90) 3)) a1).2.1 (.inl 90) 3) + 1)).2.1 (.inl 90) 3 : Int32).toInt ≤ (h.2.1 (.inl 90) 3 : Int32).toInt + 1 from (by have ⟨b6827, b6827_⟩ := (show sf_iv 0 23 (h.2.1 (.inl 90) 3) from (iv_w (c := 0) (d := 23) (iv_ltl (Int32.not_le.mp g6825) (srd_205_90_3 hI) ivk_24) (by decide +kernel))); have f6828 := r0; have f6829 := li_lt (Int32.not_le.mp g6825) (show (h.2.1 (.inl 90) 3 : Int32).toInt = (h.2.1 (.inl 90) 3).toInt from rfl) ivt_24; have e6826 := (show ((mx_uI (mx_uI h (.inl 93) (Int32.toNatClampNeg (h.2.1 (.inl 90) 3)) a1) (.inl 90) 3 (((mx_uI h (.inl 93) (Int32.toNatClampNeg (h.2.1 (.inl 90) 3)) a1).2.1 (.inl 90) 3) + 1)).2.1 (.inl 90) 3 : Int32).toInt = ((h.2.1 (.inl 90) 3).toInt + 1) from (li_s (li_add (iv_o (by decide +kernel) (iv_w (c := 0) (d := 23) (iv_ltl (Int32.not_le.mp g6825) (srd_205_90_3 hI) ivk_24) (by decide +kernel))) ivk_1 (by decide +kernel) (li_o (by decide +kernel) rfl) rfl))); omega))⟩⟩
/-! ===== class: an act is kept ===== -/
section SFA
variable {E : mx_Ev} {d : Nat} {h : mx_H} {Q : Option mx_V → mx_H → Prop}
theorem sf17k {a1 : Nat} {a2 a3 a4 a5 : Int32} (pa2 : sf_iv 0 4 a2) (pa3 : sf_iv 0 14 a3) (pa4 : sf_iv 0 99 a4) (pa5 : sf_iv 0 99 a5) (r0 : 4 ≤ a2.toInt ∨ a3.toInt ≤ 5) (hI : sf_I h) (g : (h.2.1 (.inl 84) 0) < 40) (hQ : ∀ h', sf_I h' → sf_E 173291855882550928723650886508942731464777317210988535948154973788419862463343874193542255616197070396596221023080992060469149696 h h' → Q none h') :
    vp_in (h.2.1 (.inl 84) 0) 40 ∧ mx_fn true (.inl 85) (Int32.toNatClampNeg (h.2.1 (.inl 84) 0)) = none ∧ vp_in (h.2.1 (.inl 84) 0) 40 ∧ vp_in (h.2.1 (.inl 84) 0) 40 ∧ vp_in (h.2.1 (.inl 84) 0) 40 ∧ vp_in (h.2.1 (.inl 84) 0) 40 ∧
    Q none (mx_uI (mx_uI (mx_uI (mx_uI (mx_uI (mx_uI (mx_uR h (.inl 85) (Int32.toNatClampNeg (h.2.1 (.inl 84) 0)) (some (.inr (a1, 0)))) (.inl 86) (Int32.toNatClampNeg (h.2.1 (.inl 84) 0)) a2) (.inl 87) (Int32.toNatClampNeg (h.2.1 (.inl 84) 0)) a3) (.inl 88) (Int32.toNatClampNeg (h.2.1 (.inl 84) 0)) a4) (.inl 89) (Int32.toNatClampNeg (h.2.1 (.inl 84) 0)) a5) (.inl 84) 0 (h.2.1 (.inl 84) 0 + 1)) (.inl 84) 1 0) := by
  obtain ⟨N, hN, hs⟩ := sf_of (b := 40) (sf_rd (r := 190) (lo := 0) (hi := 40) hI (.inl 84) 0 rfl rfl)
  have hN5 : N < 40 := by
    rw [hs] at g
    have := Int32.lt_iff_toInt_lt.mp g
    rw [nI_toInt (by omega), show (40 : Int32).toInt = 40 from rfl] at this
    omega
  have hv : vp_in (h.2.1 (.inl 84) 0) 40 := by
    rw [hs]
    exact vp_in_nI hN5 (by decide +kernel)
  have hc : (h.2.1 (.inl 84) 0).toNatClampNeg = N := by
    rw [hs]
    exact nI_clamp (by omega)
  refine ⟨hv, rfl, hv, hv, hv, hv, ?_⟩
  rw [hc, hs, nI_1]
  have I0 : sf_I (mx_uR h (.inl 85) N (some (.inr (a1, 0)))) := sf_uR hI (Or.inl rfl) sf_vs
  have B1 := sf_uB (a := .inl 86) (r := 198) (i := N) I0.B rfl pa2 (by decide +kernel)
  have B2 := sf_uB (a := .inl 87) (r := 199) (i := N) B1 rfl pa3 (by decide +kernel)
  have B3 := sf_uB (a := .inl 88) (r := 200) (i := N) B2 rfl pa4 (by decide +kernel)
  have B4 := sf_uB (a := .inl 89) (r := 201) (i := N) B3 rfl pa5 (by decide +kernel)
  have B5 := sf_uB (a := .inl 84) (i := 0) (r := 190) (lo := 0) (hi := 40) B4 rfl (sf_nI (n := N + 1) (by omega) (by decide +kernel)) (by decide +kernel)
  have B6 := sf_uB (a := .inl 84) (i := 1) (r := 191) B5 rfl (iv_k (x := 0) (n := 0) rfl) (by decide +kernel)
  refine hQ _ (B6.I ?_) (sf_Eu (r := 191) rfl (by decide +kernel) (sf_Eu (r := 190) rfl (by decide +kernel) (sf_Eu (r := 201) rfl (by decide +kernel) (sf_Eu (r := 200) rfl (by decide +kernel) (sf_Eu (r := 199) rfl (by decide +kernel) (sf_Eu (r := 198) rfl (by decide +kernel) (sf_ER (r := 426) rfl (by decide +kernel) (sf_E0 _ _))))))))
  have J2 : sf_J (mx_uI (mx_uI (mx_uR h (.inl 85) N (some (.inr (a1, 0)))) (.inl 86) N a2) (.inl 87) N a3) := sf_J3w I0.2.2 (fun q => by omega)
  have J4 : sf_J (mx_uI (mx_uI (mx_uI (mx_uI (mx_uR h (.inl 85) N (some (.inr (a1, 0)))) (.inl 86) N a2) (.inl 87) N a3) (.inl 88) N a4) (.inl 89) N a5) := sf_J_u (by show sf_jr 201 = false; decide) (sf_J_u (by show sf_jr 200 = false; decide) J2)
  generalize hg : (mx_uI (mx_uI (mx_uI (mx_uI (mx_uR h (.inl 85) N (some (.inr (a1, 0)))) (.inl 86) N a2) (.inl 87) N a3) (.inl 88) N a4) (.inl 89) N a5) = H4 at J4
  have e0 : (H4.2.1 (.inl 84) 0) = nI N := by
    subst hg
    exact hs
  have e1 : (H4.2.1 (.inl 86) N) = a2 := by
    subst hg
    rw [sf_ro (by decide +kernel), sf_ro (by decide +kernel), sf_ro (by decide +kernel), sf_rs]
  have e2 : (H4.2.1 (.inl 87) N) = a3 := by
    subst hg
    rw [sf_ro (by decide +kernel), sf_ro (by decide +kernel), sf_rs]
  have o : ∀ n i, n ≠ 84 → sf_jf (mx_uI (mx_uI H4 (.inl 84) 0 (nI (N + 1))) (.inl 84) 1 0) (.inl n) i = sf_jf H4 (.inl n) i := fun n i hn => (sf_jf_o (fun q => hn (Sum.inl.inj q.1))).trans (sf_jf_o (fun q => hn (Sum.inl.inj q.1)))
  refine sf_Jg3 (h := H4) (fun n i hn => o n i hn.1) (fun q i => (sf_jf_o (fun q => by cases q.1)).trans (sf_jf_o (fun q => by cases q.1))) rfl rfl J4 ?_
  have h3 := J4.1.2.2.1
  have u1 := (sf_rd (r := 191) (lo := 0) (hi := 40) hI (.inl 84) 1 rfl rfl).1
  have u2 : H4.2.1 (.inl 84) 1 = h.2.1 (.inl 84) 1 := by
    subst hg
    rfl
  unfold sf_J3 at *
  rw [sf_84 (Or.inl rfl), sf_84 (Or.inr rfl)] at *
  rw [show (mx_uI (mx_uI H4 (.inl 84) 0 (nI (N + 1))) (.inl 84) 1 0).2.1 (.inl 84) 0 = nI (N + 1) from rfl, show (mx_uI (mx_uI H4 (.inl 84) 0 (nI (N + 1))) (.inl 84) 1 0).2.1 (.inl 84) 1 = 0 from rfl, nI_toInt (by omega), show (0 : Int32).toInt = 0 from rfl]
  rw [e0, u2, nI_toInt (by omega)] at h3
  refine ⟨by omega, fun k hk q => ?_⟩
  rw [o _ _ (by decide +kernel)] at q ⊢
  by_cases e : k = N
  · subst e
    rw [sf_jfr (r := 198) rfl rfl, e1] at q
    rw [sf_jfr (r := 199) rfl rfl, e2]
    omega
  · exact h3.2 k (by omega) q
theorem sf17 {t1 : Nat} {a2 a3 a4 a5 : Int32} (pa2 : sf_iv 0 4 a2) (pa3 : sf_iv 0 14 a3) (pa4 : sf_iv 0 99 a4) (pa5 : sf_iv 0 99 a5) (r0 : 4 ≤ a2.toInt ∨ a3.toInt ≤ 5) (hI : sf_I h) (hQ : ∀ h', sf_I h' → sf_E 173291855882550928723650886508942731464777317210988535948154973788419862463343874193542255616197070396596221023080992060469149696 h h' → Q none h') :
    mx_C E (mx_fn true) (d + 1) 17 [.inr (.inl 84), .inr (.inr (t1, 0)), .inl (.int a2), .inl (.int a3), .inl (.int a4), .inl (.int a5)] h Q := by
  refine sg17_0 ⟨fun g => sf17k pa2 pa3 pa4 pa5 r0 hI g hQ, fun g => sf18 (Int32.le_iff_toInt_le.mp (Int32.not_lt.mp g)) hI (fun h' I' E' z => hx_n (sf17k pa2 pa3 pa4 pa5 r0 I' (Int32.lt_iff_toInt_lt.mpr ?_) (fun h2 I2 E2 => hQ h2 I2 (sf_Et (by decide +kernel) (sf_Et (by decide +kernel) (sf_E0 _ _) E') E2))))⟩
  rw [show (40 : Int32).toInt = 40 from rfl]
  omega
end SFA
/-! ===== methods that end and keep their bounds: written by program, checked by Lean ===== -/
set_option maxRecDepth 10000 in
theorem sf85_2 {E : mx_Ev} {d : Nat} {Q : Option mx_V → mx_H → Prop} {h0 : mx_H} (hQ : ∀ h', sf_I h' → sf_E 163840 h0 h' → Q none h') : ∀ (n : Nat) {a1 : Int32} {a2 : Int32} {a3 : Int32} {h : mx_H}, (2147483647 - a3.toInt).toNat < n → sf_iv 1 4 a1 → sf_iv (-2147483648) 2147483647 a2 → sf_iv 0 4 a3 → sf_I h → sf_E 163840 h0 h → mx_T E (mx_fn true) d 0 0 85 2 [(0, .inr (.inl 1)), (1, .inl (.int a1)), (2, .inl (.int a2)), (3, .inl (.int a3))] [] h Q
  | 0, _, _, _, _, hm, _, _, _, _, _ => absurd hm (Nat.not_lt_zero _)
  | n + 1, a1, a2, a3, h, hm, pa1, pa2, pa3, hI, hE => sg85_2 ⟨fun g5 => hQ _ hI hE , fun g6 => ⟨fun g7 => hQ _ hI hE , fun g8 => ⟨(iv_in (iv_w (c := 0) (d := 119) (iv_ltl (Int32.not_le.mp g8) (srd_15_1_1 hI) ivk_120) (by decide +kernel)) (by decide +kernel)), sf85_2 hQ  n (iv_up hm (iv_w (c := 0) (d := 3) (iv_ltl (Int32.not_le.mp g6) pa3 pa1) (by decide +kernel)) (by decide +kernel))  pa1 pa2 (iv_w (c := 0) (d := 4) (iv_add (lo := 1) (hi := 4) (iv_w (c := 0) (d := 3) (iv_ltl (Int32.not_le.mp g6) pa3 pa1) (by decide +kernel)) ivk_1 (by decide +kernel)) (by decide +kernel)) (sf_uI (r := 15) (sf_uI (r := 17) hI rfl (iv_and (m := 255) rfl (by decide +kernel)) (by decide +kernel)) rfl (iv_add (lo := 1) (hi := 120) (iv_o (by decide +kernel) (iv_w (c := 0) (d := 119) (iv_ltl (Int32.not_le.mp g8) (srd_15_1_1 hI) ivk_120) (by decide +kernel))) ivk_1 (by decide +kernel)) (by decide +kernel)) (sf_Eu (r := 15) rfl (by decide +kernel) (sf_Eu (r := 17) rfl (by decide +kernel) hE))⟩⟩⟩
set_option maxRecDepth 10000 in
theorem sf85 {E : mx_Ev} {d : Nat} {h : mx_H} {Q : Option mx_V → mx_H → Prop} {a1 : Int32} {a2 : Int32} (pa1 : sf_iv 1 4 a1) (pa2 : sf_iv (-2147483648) 2147483647 a2) (hI : sf_I h) (hQ : ∀ h', sf_I h' → sf_E 163840 h h' → Q none h') : mx_C E (mx_fn true) d 85 [.inr (.inl 1), .inl (.int a1), .inl (.int a2)] h Q :=
  sg85_0 (sf85_2 hQ  _ (Nat.lt_succ_self _)  pa1 pa2 (iv_w (c := 0) (d := 4) ivk_0 (by decide +kernel)) hI (sf_E0 _ _))
set_option maxRecDepth 10000 in
theorem sf102 {E : mx_Ev} {d : Nat} {h : mx_H} {Q : Option mx_V → mx_H → Prop} {a1 : Int32} {a2 : Int32} (pa1 : sf_iv (-2147483648) 2147483647 a1) (pa2 : sf_iv (-2147483648) 2147483647 a2) (hI : sf_I h) (hQ : ∀ x h', sf_I h' → sf_E 163840 h h' → sf_iv (-3) 120 x → Q (some (.inl (.int x))) h') : mx_C E (mx_fn true) (d + 1) 102 [.inr (.inl 0), .inl (.int a1), .inl (.int a2)] h Q :=
  sg102_0 (sp_wi (fun g20 => hx_i ⟨fun g21 => ⟨fun g22 => (sf85 (iv_w (c := 1) (d := 4) (iv_lel g20.2 (iv_w (c := 1) (d := 2147483647) (iv_ler g20.1 ivk_1 pa1) (by decide +kernel)) ivk_4) (by decide +kernel)) pa2 hI (fun h23 I24 E25  => hx_n (hQ _ _ I24 (sf_Et (by decide +kernel) (sf_E0 _ _) E25) (iv_w (c := -3) (d := 120) (srd_15_1_1 I24) (by decide +kernel)) ))), fun g26 => hQ _ _ hI (sf_E0 _ _) (iv_w (c := -3) (d := 120) ivk_m3 (by decide +kernel)) ⟩, fun g27 => (iv_no (iv_eql (Decidable.not_not.mp g27) ivk_1 ivk_0) (by decide +kernel)).elim⟩) (fun g28 => hx_i ⟨fun g29 => (iv_no (iv_nel g29 ivk_0 ivk_0) (by decide +kernel)).elim, fun g30 => hQ _ _ hI (sf_E0 _ _) (iv_w (c := -3) (d := 120) ivk_m1 (by decide +kernel)) ⟩))
set_option maxRecDepth 10000 in
theorem sf61_2 {E : mx_Ev} {d : Nat} {Q : Option mx_V → mx_H → Prop} {h0 : mx_H} (hQ : ∀ x h', sf_I h' → sf_E 0 h0 h' → sf_iv (-1) 14 x → Q (some (.inl (.int x))) h') : ∀ (n : Nat) {a0 : Nat} {a1 : Int32} {a2 : Int32} {a3 : Int32} {h : mx_H}, (2147483647 - a3.toInt).toNat < n → sf_iv 0 5 a1 → sf_iv 0 5 a2 → sf_iv 0 15 a3 → sf_I h → sf_E 0 h0 h → mx_T E (mx_fn true) (d + 1) 0 0 61 2 [(0, .inr (.inr (a0, 0))), (1, .inl (.int a1)), (2, .inl (.int a2)), (3, .inl (.int a3))] [] h Q
  | 0, _, _, _, _, _, hm, _, _, _, _, _ => absurd hm (Nat.not_lt_zero _)
  | n + 1, a0, a1, a2, a3, h, hm, pa1, pa2, pa3, hI, hE => sg61_2 ⟨fun g273 => hQ _ _ hI hE (iv_w (c := -1) (d := 14) ivk_m1 (by decide +kernel)) , fun g274 => ⟨(show vp_in _ 15 from (iv_in (iv_w (c := 0) (d := 14) (iv_ltl (Int32.not_le.mp g274) pa3 (srd_385_s_0_6 hI)) (by decide +kernel)) (by decide +kernel))), ⟨fun g275 => sf61_2 hQ  n (iv_up hm (iv_w (c := 0) (d := 14) (iv_ltl (Int32.not_le.mp g274) pa3 (srd_385_s_0_6 hI)) (by decide +kernel)) (by decide +kernel))  pa1 pa2 (iv_w (c := 0) (d := 15) (iv_add (lo := 1) (hi := 15) (iv_w (c := 0) (d := 14) (iv_ltl (Int32.not_le.mp g274) pa3 (srd_385_s_0_6 hI)) (by decide +kernel)) ivk_1 (by decide +kernel)) (by decide +kernel)) hI hE, fun g276 => ⟨(show vp_in _ 15 from (iv_in (iv_w (c := 0) (d := 14) (iv_ltl (Int32.not_le.mp g274) pa3 (srd_385_s_0_6 hI)) (by decide +kernel)) (by decide +kernel))), ⟨fun g277 => sf61_2 hQ  n (iv_up hm (iv_w (c := 0) (d := 14) (iv_ltl (Int32.not_le.mp g274) pa3 (srd_385_s_0_6 hI)) (by decide +kernel)) (by decide +kernel))  pa1 pa2 (iv_w (c := 0) (d := 15) (iv_add (lo := 1) (hi := 15) (iv_w (c := 0) (d := 14) (iv_ltl (Int32.not_le.mp g274) pa3 (srd_385_s_0_6 hI)) (by decide +kernel)) ivk_1 (by decide +kernel)) (by decide +kernel)) hI hE, fun g278 => hQ _ _ hI hE (iv_w (c := -1) (d := 14) (iv_w (c := 0) (d := 14) (iv_ltl (Int32.not_le.mp g274) pa3 (srd_385_s_0_6 hI)) (by decide +kernel)) (by decide +kernel)) ⟩⟩⟩⟩⟩
set_option maxRecDepth 10000 in
theorem sf61 {E : mx_Ev} {d : Nat} {h : mx_H} {Q : Option mx_V → mx_H → Prop} {t0 : Nat} {a1 : Int32} {a2 : Int32} (pa1 : sf_iv 0 5 a1) (pa2 : sf_iv 0 5 a2) (hI : sf_I h) (hQ : ∀ x h', sf_I h' → sf_E 0 h h' → sf_iv (-1) 14 x → Q (some (.inl (.int x))) h') : mx_C E (mx_fn true) (d + 1) 61 [.inr (.inr (t0, 0)), .inl (.int a1), .inl (.int a2)] h Q :=
  sg61_0 (sf61_2 hQ  _ (Nat.lt_succ_self _)  pa1 pa2 (iv_w (c := 0) (d := 15) ivk_0 (by decide +kernel)) hI (sf_E0 _ _))
set_option maxRecDepth 10000 in
theorem sf90 {E : mx_Ev} {d : Nat} {h : mx_H} {Q : Option mx_V → mx_H → Prop} {a1 : Nat}  (hI : sf_I h) (hQ : ∀ x h', sf_I h' → sf_E 80695308690215893426747474125094121072803306025913234775958104891895238188026287332176417290004307232371974124148424704 h h' → sf_iv 0 1 x → Q (some (.inl (.int x))) h') : mx_C E (mx_fn true) (d + 2) 90 [.inr (.inl 1), .inr (.inr (a1, 0))] h Q :=
  sg90_0 (sg94_0 (sg92_0 ⟨fun g739 => hx_i (sp_wi (fun g740 => (iv_no (iv_lel g740.1 ivk_0 (iv_sub (lo := -98) (hi := -98) ivk_m1 ivk_97 (by decide +kernel))) (by decide +kernel)).elim) (fun g741 => hx_i ⟨fun g742 => hx_i ⟨fun g743 => ⟨Or.inl rfl, hQ _ _ hI (sf_E0 _ _) (iv_w (c := 0) (d := 1) ivk_0 (by decide +kernel)) ⟩, fun g744 => (iv_no (iv_lel (Int32.not_lt.mp g744) ivk_0 ivk_m1) (by decide +kernel)).elim⟩, fun g745 => (iv_no (iv_nel g745 ivk_0 ivk_0) (by decide +kernel)).elim⟩)), fun g746 => ⟨fun g747 => (iv_no (iv_lel g747 ivk_120 (iv_w (c := 0) (d := 119) (iv_ltl (Int32.not_le.mp g746) (srd_16_1_2 hI) (srd_15_1_1 hI)) (by decide +kernel))) (by decide +kernel)).elim, fun g748 => ⟨(iv_in (iv_w (c := 0) (d := 119) (iv_ltl (Int32.not_le.mp g746) (srd_16_1_2 hI) (srd_15_1_1 hI)) (by decide +kernel)) (by decide +kernel)), hx_i (sp_wi (fun g749 => hx_i ⟨fun g750 => (iv_no (iv_eql g750 ivk_1 ivk_0) (by decide +kernel)).elim, fun g751 => hx_i ⟨fun g752 => (iv_no (iv_ltl g752 (iv_w (c := 0) (d := 5) (iv_lel g749.2 (iv_w (c := 0) (d := 158) (iv_ler g749.1 ivk_0 (iv_sub (lo := -97) (hi := 158) (srd_17_2_x hI (Int32.toNatClampNeg (h.2.1 (.inl 1) 2))) ivk_97 (by decide +kernel))) (by decide +kernel)) (iv_sub (lo := -1) (hi := 5) (srd_379_s_0_0 hI) ivk_1 (by decide +kernel))) (by decide +kernel)) ivk_0) (by decide +kernel)).elim, fun g753 => ⟨(show vp_in _ 6 from (iv_in (iv_w (c := 0) (d := 5) (iv_lel g749.2 (iv_w (c := 0) (d := 158) (iv_ler g749.1 ivk_0 (iv_sub (lo := -97) (hi := 158) (srd_17_2_x hI (Int32.toNatClampNeg (h.2.1 (.inl 1) 2))) ivk_97 (by decide +kernel))) (by decide +kernel)) (iv_sub (lo := -1) (hi := 5) (srd_379_s_0_0 hI) ivk_1 (by decide +kernel))) (by decide +kernel)) (by decide +kernel))), ⟨fun g754 => ⟨(show vp_in _ 6 from (iv_in (iv_w (c := 0) (d := 5) (iv_lel g749.2 (iv_w (c := 0) (d := 158) (iv_ler g749.1 ivk_0 (iv_sub (lo := -97) (hi := 158) (srd_17_2_x hI (Int32.toNatClampNeg (h.2.1 (.inl 1) 2))) ivk_97 (by decide +kernel))) (by decide +kernel)) (iv_sub (lo := -1) (hi := 5) (srd_379_s_0_0 hI) ivk_1 (by decide +kernel))) (by decide +kernel)) (by decide +kernel))), ⟨Or.inr rfl, hQ _ _ (sf_uI (r := 395) (sf_uI (r := 16) hI rfl (iv_add (lo := 1) (hi := 120) (iv_w (c := 0) (d := 119) (iv_ltl (Int32.not_le.mp g746) (srd_16_1_2 hI) (srd_15_1_1 hI)) (by decide +kernel)) ivk_1 (by decide +kernel)) (by decide +kernel)) rfl ivk_1 (by decide +kernel)) (sf_Eu (r := 395) rfl (by decide +kernel) (sf_Eu (r := 16) rfl (by decide +kernel) (sf_E0 _ _))) (iv_w (c := 0) (d := 1) ivk_1 (by decide +kernel)) ⟩⟩, fun g755 => ⟨Or.inl rfl, hQ _ _ hI (sf_E0 _ _) (iv_w (c := 0) (d := 1) ivk_0 (by decide +kernel)) ⟩⟩⟩⟩⟩) (fun g756 => hx_i ⟨fun g757 => hx_i ⟨fun g758 => ⟨Or.inl rfl, hQ _ _ hI (sf_E0 _ _) (iv_w (c := 0) (d := 1) ivk_0 (by decide +kernel)) ⟩, fun g759 => (iv_no (iv_lel (Int32.not_lt.mp g759) ivk_0 ivk_m1) (by decide +kernel)).elim⟩, fun g760 => (iv_no (iv_nel g760 ivk_0 ivk_0) (by decide +kernel)).elim⟩))⟩⟩⟩))
set_option maxRecDepth 10000 in
theorem sf105 {E : mx_Ev} {d : Nat} {h : mx_H} {Q : Option mx_V → mx_H → Prop} {a1 : Int32} {a2 : Int32} {a3 : Int32} {a4 : Int32} (pa1 : sf_iv (-2147483648) 2147483647 a1) (pa2 : sf_iv (-2147483648) 2147483647 a2) (pa3 : sf_iv (-2147483648) 2147483647 a3) (pa4 : sf_iv (-2147483648) 2147483647 a4) (hI : sf_I h) (hQ : ∀ x h', sf_I h' → sf_E 0 h h' → sf_iv (-2) 255 x → Q (some (.inl (.int x))) h') : mx_C E (mx_fn true) (d + 2) 105 [.inr (.inl 0), .inl (.int a1), .inl (.int a2), .inl (.int a3), .inl (.int a4)] h Q :=
  sg105_0 (sg166_0 (sp_wi (fun g1262 => hx_i ⟨fun g1263 => (iv_no (iv_eql g1263 ivk_1 ivk_0) (by decide +kernel)).elim, fun g1264 => ⟨(iv_in (iv_w (c := 0) (d := 11) (iv_lel g1262.2 (iv_w (c := 0) (d := 2147483647) (iv_ler g1262.1 ivk_0 pa1) (by decide +kernel)) (iv_sub (lo := -1) (hi := 11) (srd_2_0_2 hI) ivk_1 (by decide +kernel))) (by decide +kernel)) (by decide +kernel)), fun j1265 q1266 => hx_s (sg164_0 (sp_wi (fun g1269 => hx_i ⟨fun g1270 => (iv_no (iv_eql g1270 ivk_1 ivk_0) (by decide +kernel)).elim, fun g1271 => ⟨Or.inr rfl, hx_i ⟨fun g1272 => (iv_no (iv_eql g1272 ivk_1 ivk_0) (by decide +kernel)).elim, fun g1273 => (sg164_0 (sp_wi (fun g1274 => hx_i ⟨fun g1275 => (iv_no (iv_eql g1275 ivk_1 ivk_0) (by decide +kernel)).elim, fun g1276 => ⟨Or.inr rfl, hx_i ⟨fun g1277 => (iv_no (iv_eql g1277 ivk_1 ivk_0) (by decide +kernel)).elim, fun g1278 => (sp_wi (fun g1279 => hx_i ⟨fun g1280 => (sf61 (iv_w (c := 0) (d := 5) (iv_lel g1269.2 (iv_w (c := 0) (d := 2147483647) (iv_ler g1269.1 ivk_0 pa2) (by decide +kernel)) (iv_sub (lo := -1) (hi := 5) (srd_379_s_0_0 hI) ivk_1 (by decide +kernel))) (by decide +kernel)) (iv_w (c := 0) (d := 5) (iv_lel g1274.2 (iv_w (c := 0) (d := 2147483647) (iv_ler g1274.1 ivk_0 pa3) (by decide +kernel)) (iv_w (c := 0) (d := 5) (iv_ler g1269.2 (iv_w (c := 0) (d := 2147483647) (iv_ler g1269.1 ivk_0 pa2) (by decide +kernel)) (iv_sub (lo := -1) (hi := 5) (srd_379_s_0_0 hI) ivk_1 (by decide +kernel))) (by decide +kernel))) (by decide +kernel)) hI (fun x1284 h1281 I1282 E1283 X1285  => hx_i ⟨fun g1286 => ⟨fun g1287 => ⟨fun g1288 => ⟨(show vp_in _ 15 from (iv_in (iv_w (c := 0) (d := 14) (iv_ler g1286 ivk_0 X1285) (by decide +kernel)) (by decide +kernel))), hQ _ _ I1282 (sf_Et (by decide +kernel) (sf_E0 _ _) E1283) (iv_w (c := -2) (d := 255) (iv_e (sf_fr (r := 399) E1283 rfl (by decide +kernel)) (srd_399_s_8_x hI (Int32.toNatClampNeg x1284))) (by decide +kernel)) ⟩, fun g1289 => ⟨(show vp_in _ 15 from (iv_in (iv_w (c := 0) (d := 14) (iv_ler g1286 ivk_0 X1285) (by decide +kernel)) (by decide +kernel))), hQ _ _ I1282 (sf_Et (by decide +kernel) (sf_E0 _ _) E1283) (iv_w (c := -2) (d := 255) (iv_e (sf_fr (r := 398) E1283 rfl (by decide +kernel)) (srd_398_s_7_x hI (Int32.toNatClampNeg x1284))) (by decide +kernel)) ⟩⟩, fun g1290 => hQ _ _ I1282 (sf_Et (by decide +kernel) (sf_E0 _ _) E1283) (iv_w (c := -2) (d := 255) (iv_add (lo := 0) (hi := 214) (iv_e (sf_fr (r := 384) E1283 rfl (by decide +kernel)) (srd_384_s_0_5 hI)) (iv_w (c := 0) (d := 14) (iv_ler g1286 ivk_0 X1285) (by decide +kernel)) (by decide +kernel)) (by decide +kernel)) ⟩, fun g1291 => hQ _ _ I1282 (sf_Et (by decide +kernel) (sf_E0 _ _) E1283) (iv_w (c := -2) (d := 255) ivk_m2 (by decide +kernel)) ⟩)), fun g1292 => (iv_no (iv_eql (Decidable.not_not.mp g1292) ivk_1 ivk_0) (by decide +kernel)).elim⟩) (fun g1293 => hx_i ⟨fun g1294 => (iv_no (iv_nel g1294 ivk_0 ivk_0) (by decide +kernel)).elim, fun g1295 => hQ _ _ hI (sf_E0 _ _) (iv_w (c := -2) (d := 255) ivk_m1 (by decide +kernel)) ⟩))⟩⟩⟩) (fun g1296 => hx_i ⟨fun g1297 => ⟨Or.inl rfl, hx_i ⟨fun g1298 => hQ _ _ hI (sf_E0 _ _) (iv_w (c := -2) (d := 255) ivk_m1 (by decide +kernel)) , fun g1299 => (iv_no (iv_nel g1299 ivk_0 ivk_0) (by decide +kernel)).elim⟩⟩, fun g1300 => (iv_no (iv_nel g1300 ivk_0 ivk_0) (by decide +kernel)).elim⟩)))⟩⟩⟩) (fun g1301 => hx_i ⟨fun g1302 => ⟨Or.inl rfl, hx_i ⟨fun g1303 => hQ _ _ hI (sf_E0 _ _) (iv_w (c := -2) (d := 255) ivk_m1 (by decide +kernel)) , fun g1304 => (iv_no (iv_nel g1304 ivk_0 ivk_0) (by decide +kernel)).elim⟩⟩, fun g1305 => (iv_no (iv_nel g1305 ivk_0 ivk_0) (by decide +kernel)).elim⟩))), fun q1266 => hx_0 (sg164_null ⟨Or.inl rfl, hx_i ⟨fun g1267 => hQ _ _ hI (sf_E0 _ _) (iv_w (c := -2) (d := 255) ivk_m1 (by decide +kernel)) , fun g1268 => (iv_no (iv_nel g1268 ivk_0 ivk_0) (by decide +kernel)).elim⟩⟩), sf_rt hI rfl⟩⟩) (fun g1306 => hx_i ⟨fun g1307 => hx_0 (sg164_null ⟨Or.inl rfl, hx_i ⟨fun g1308 => hQ _ _ hI (sf_E0 _ _) (iv_w (c := -2) (d := 255) ivk_m1 (by decide +kernel)) , fun g1309 => (iv_no (iv_nel g1309 ivk_0 ivk_0) (by decide +kernel)).elim⟩⟩), fun g1310 => (iv_no (iv_nel g1310 ivk_0 ivk_0) (by decide +kernel)).elim⟩)))
set_option maxRecDepth 10000 in
theorem sf65 {E : mx_Ev} {d : Nat} {h : mx_H} {Q : Option mx_V → mx_H → Prop} {a0 : Int32} {a1 : Int32} (pa0 : sf_iv 0 9 a0) (pa1 : sf_iv 0 9 a1) (hI : sf_I h) (hQ : ∀ x h', sf_I h' → sf_E 0 h h' → sf_iv 0 99 x → Q (some (.inl (.int x))) h') : mx_C E (mx_fn true) d 65 [.inl (.int a0), .inl (.int a1)] h Q :=
  sg65_0 (hQ _ _ hI (sf_E0 _ _) (iv_add (lo := 0) (hi := 99) (iv_mul (lo := 0) (hi := 90) (iv_w (c := 0) (d := 10) ivk_10 (by decide +kernel)) pa0 (by decide +kernel)) pa1 (by decide +kernel)) )
set_option maxRecDepth 10000 in
theorem sf25 {E : mx_Ev} {d : Nat} {h : mx_H} {Q : Option mx_V → mx_H → Prop} {t0 : Nat} {a1 : Int32} {a2 : Int32} {a3 : Int32} (pa1 : sf_iv 0 5 a1) (pa2 : sf_iv (-2147483648) 99 a2) (pa3 : sf_iv 0 99 a3) (hI : sf_I h) (hQ : ∀ h', sf_I h' → sf_E 10576895500643977583230644928524336637254474927428499508554380724390492659780981533203027367035444557561459392400373732868096 h h' → Q none h') : mx_C E (mx_fn true) (d + 1) 25 [.inr (.inr (t0, 30)), .inl (.int a1), .inl (.int a2), .inl (.int a3)] h Q :=
  sg25_0 ⟨(show vp_in _ 6 from (iv_in pa1 (by decide +kernel))), hQ _ (sf_uI (r := 412) hI rfl (iv_min (lo := -2147483648) (hi := 9) ivk_9 (iv_add (lo := -2147483648) (hi := 198) pa2 pa3 (by decide +kernel)) (by decide +kernel)) (by decide +kernel)) (sf_Eu (r := 412) rfl (by decide +kernel) (sf_E0 _ _)) ⟩
set_option maxRecDepth 10000 in
theorem sf26 {E : mx_Ev} {d : Nat} {h : mx_H} {Q : Option mx_V → mx_H → Prop} {t0 : Nat} {a1 : Int32} {a2 : Int32} {a3 : Int32} (pa1 : sf_iv 0 5 a1) (pa2 : sf_iv 0 5 a2) (pa3 : sf_iv (-2147483648) 2147483647 a3) (hI : sf_I h) (hQ : ∀ h', sf_I h' → sf_E 84615164005151820665845159428194693098035799419427996068435045795123941278247852265624218936283556460491675139202989862944768 h h' → Q none h') : mx_C E (mx_fn true) d 26 [.inr (.inr (t0, 30)), .inl (.int a1), .inl (.int a2), .inl (.int a3)] h Q :=
  sg26_0 ⟨(show vp_in _ 36 from (iv_in (iv_add (lo := 0) (hi := 35) (iv_mul (lo := 0) (hi := 30) (iv_w (c := 0) (d := 6) ivk_6 (by decide +kernel)) pa1 (by decide +kernel)) pa2 (by decide +kernel)) (by decide +kernel))), ⟨(show vp_in _ 36 from (iv_in (iv_add (lo := 0) (hi := 35) (iv_mul (lo := 0) (hi := 30) (iv_w (c := 0) (d := 6) ivk_6 (by decide +kernel)) pa2 (by decide +kernel)) pa1 (by decide +kernel)) (by decide +kernel))), hQ _ (sf_uI (r := 415) (sf_uI (r := 415) hI rfl pa3 (by decide +kernel)) rfl pa3 (by decide +kernel)) (sf_Eu (r := 415) rfl (by decide +kernel) (sf_Eu (r := 415) rfl (by decide +kernel) (sf_E0 _ _))) ⟩⟩
set_option maxRecDepth 10000 in
theorem sf23_80 {E : mx_Ev} {d : Nat} {Q : Option mx_V → mx_H → Prop} {h0 : mx_H} (hQ : ∀ h', sf_I h' → sf_E 158656014759537750657049329847037052570691453617220321851828541525213930544336739839240040150884948501253326789177578740514816 h0 h' → Q none h') : ∀ (n : Nat) {a0 : Nat} {a1 : Nat} {a2 : Int32} {a3 : Int32} {h : mx_H}, (2147483647 - a3.toInt).toNat < n → sf_iv (-14) 8 a2 → sf_iv 0 15 a3 → sf_I h → sf_E 158656014759537750657049329847037052570691453617220321851828541525213930544336739839240040150884948501253326789177578740514816 h0 h → mx_T E (mx_fn true) (d + 2) 0 0 23 80 [(0, .inr (.inr (a0, 30))), (1, .inr (.inr (a1, 0))), (2, .inl (.int a2)), (3, .inl (.int a3))] [] h Q
  | 0, _, _, _, _, _, hm, _, _, _, _ => absurd hm (Nat.not_lt_zero _)
  | n + 1, a0, a1, a2, a3, h, hm, pa2, pa3, hI, hE => sg23_80 ⟨fun g2097 => hQ _ hI hE , fun g2098 => ⟨(show vp_in _ 15 from (iv_in (iv_w (c := 0) (d := 14) (iv_ltl (Int32.not_le.mp g2098) pa3 (srd_385_s_0_6 hI)) (by decide +kernel)) (by decide +kernel))), (sg24_0 (hx_i ⟨(show vp_in _ 15 from (iv_in (iv_w (c := 0) (d := 14) (iv_ltl (Int32.not_le.mp g2098) pa3 (srd_385_s_0_6 hI)) (by decide +kernel)) (by decide +kernel))), ⟨(show vp_in _ 15 from (iv_in (iv_w (c := 0) (d := 14) (iv_ltl (Int32.not_le.mp g2098) pa3 (srd_385_s_0_6 hI)) (by decide +kernel)) (by decide +kernel))), ⟨(show vp_in _ 15 from (iv_in (iv_w (c := 0) (d := 14) (iv_ltl (Int32.not_le.mp g2098) pa3 (srd_385_s_0_6 hI)) (by decide +kernel)) (by decide +kernel))), (sf26 (srd_396_s_5_x hI (Int32.toNatClampNeg a3)) (srd_397_s_6_x hI (Int32.toNatClampNeg a3)) (iv_w (c := -2147483648) (d := 2147483647) (iv_sub (lo := -8) (hi := 9) (iv_max (lo := 1) (hi := 9) ivk_1 (iv_min (lo := -14) (hi := 9) ivk_9 (iv_add (lo := -14) (hi := 17) (srd_398_s_7_x hI (Int32.toNatClampNeg a3)) pa2 (by decide +kernel)) (by decide +kernel)) (by decide +kernel)) (iv_min (lo := 0) (hi := 9) (srd_399_s_8_x hI (Int32.toNatClampNeg a3)) (iv_max (lo := 1) (hi := 9) ivk_1 (iv_min (lo := -14) (hi := 9) ivk_9 (iv_add (lo := -14) (hi := 17) (srd_398_s_7_x hI (Int32.toNatClampNeg a3)) pa2 (by decide +kernel)) (by decide +kernel)) (by decide +kernel)) (by decide +kernel)) (by decide +kernel)) (by decide +kernel)) hI (fun h2099 I2100 E2101  => hx_n (sf23_80 hQ  n (iv_up hm (iv_w (c := 0) (d := 14) (iv_ltl (Int32.not_le.mp g2098) pa3 (srd_385_s_0_6 hI)) (by decide +kernel)) (by decide +kernel))  pa2 (iv_w (c := 0) (d := 15) (iv_add (lo := 1) (hi := 15) (iv_w (c := 0) (d := 14) (iv_ltl (Int32.not_le.mp g2098) pa3 (srd_385_s_0_6 hI)) (by decide +kernel)) ivk_1 (by decide +kernel)) (by decide +kernel)) I2100 (sf_Et (by decide +kernel) hE E2101))))⟩⟩⟩))⟩⟩
set_option maxRecDepth 10000 in
theorem sf23_18 {E : mx_Ev} {d : Nat} {Q : Option mx_V → mx_H → Prop} {h0 : mx_H} (hQ : ∀ h', sf_I h' → sf_E 158656014759537750657049329847037052570691453617220321851828541525213930544336739839240040150884948501253326789177578740514816 h0 h' → Q none h') : ∀ (n : Nat) {a0 : Nat} {a1 : Nat} {a2 : Int32} {a3 : Int32} {h : mx_H}, (2147483647 - a3.toInt).toNat < n → sf_iv (-14) 8 a2 → sf_iv 0 6 a3 → sf_I h → sf_E 158656014759537750657049329847037052570691453617220321851828541525213930544336739839240040150884948501253326789177578740514816 h0 h → mx_T E (mx_fn true) (d + 2) 0 0 23 18 [(0, .inr (.inr (a0, 30))), (1, .inr (.inr (a1, 0))), (2, .inl (.int a2)), (3, .inl (.int a3))] [] h Q
  | 0, _, _, _, _, _, hm, _, _, _, _ => absurd hm (Nat.not_lt_zero _)
  | n + 1, a0, a1, a2, a3, h, hm, pa2, pa3, hI, hE => sg23_18 ⟨fun g2102 => sf23_80 hQ  _ (Nat.lt_succ_self _)  pa2 (iv_w (c := 0) (d := 15) ivk_0 (by decide +kernel)) hI hE, fun g2103 => ⟨(show vp_in _ 6 from (iv_in (iv_w (c := 0) (d := 5) (iv_ltl (Int32.not_le.mp g2103) pa3 (srd_400_s_30_0 hI)) (by decide +kernel)) (by decide +kernel))), (sg24_0 (hx_i ⟨(show vp_in _ 6 from (iv_in (iv_w (c := 0) (d := 5) (iv_ltl (Int32.not_le.mp g2103) pa3 (srd_400_s_30_0 hI)) (by decide +kernel)) (by decide +kernel))), (sf25 (iv_w (c := 0) (d := 5) (iv_ltl (Int32.not_le.mp g2103) pa3 (srd_400_s_30_0 hI)) (by decide +kernel)) (iv_w (c := -2147483648) (d := 99) (iv_max (lo := 1) (hi := 9) ivk_1 (iv_min (lo := -8) (hi := 9) ivk_9 (iv_sub (lo := -8) (hi := 113) (srd_392_s_1_x hI (Int32.toNatClampNeg a3)) pa2 (by decide +kernel)) (by decide +kernel)) (by decide +kernel)) (by decide +kernel)) (srd_394_s_3_x hI (Int32.toNatClampNeg a3)) hI (fun h2104 I2105 E2106  => hx_n ⟨(show vp_in _ 6 from (iv_in (iv_w (c := 0) (d := 5) (iv_ltl (Int32.not_le.mp g2103) pa3 (srd_400_s_30_0 hI)) (by decide +kernel)) (by decide +kernel))), ⟨(show vp_in _ 6 from (iv_in (iv_w (c := 0) (d := 5) (iv_ltl (Int32.not_le.mp g2103) pa3 (srd_400_s_30_0 hI)) (by decide +kernel)) (by decide +kernel))), ⟨(show vp_in _ 6 from (iv_in (iv_w (c := 0) (d := 5) (iv_ltl (Int32.not_le.mp g2103) pa3 (srd_400_s_30_0 hI)) (by decide +kernel)) (by decide +kernel))), ⟨(show vp_in _ 6 from (iv_in (iv_w (c := 0) (d := 5) (iv_ltl (Int32.not_le.mp g2103) pa3 (srd_400_s_30_0 hI)) (by decide +kernel)) (by decide +kernel))), sf23_18 hQ  n (iv_up hm (iv_w (c := 0) (d := 5) (iv_ltl (Int32.not_le.mp g2103) pa3 (srd_400_s_30_0 hI)) (by decide +kernel)) (by decide +kernel))  pa2 (iv_w (c := 0) (d := 6) (iv_add (lo := 1) (hi := 6) (iv_w (c := 0) (d := 5) (iv_ltl (Int32.not_le.mp g2103) pa3 (srd_400_s_30_0 hI)) (by decide +kernel)) ivk_1 (by decide +kernel)) (by decide +kernel)) (sf_uI (r := 414) (sf_uI (r := 413) I2105 rfl (iv_e (sf_fr (r := 393) E2106 rfl (by decide +kernel)) (srd_393_s_2_x hI (Int32.toNatClampNeg a3))) (by decide +kernel)) rfl (iv_o (ne_oo (by decide +kernel)) (iv_e (sf_fr (r := 395) E2106 rfl (by decide +kernel)) (srd_395_s_4_x hI (Int32.toNatClampNeg a3)))) (by decide +kernel)) (sf_Eu (r := 414) rfl (by decide +kernel) (sf_Eu (r := 413) rfl (by decide +kernel) (sf_Et (by decide +kernel) hE E2106)))⟩⟩⟩⟩))⟩))⟩⟩
set_option maxRecDepth 10000 in
theorem sf23 {E : mx_Ev} {d : Nat} {h : mx_H} {Q : Option mx_V → mx_H → Prop} {t0 : Nat} {a1 : Nat} {a2 : Int32} (pa2 : sf_iv (-14) 8 a2) (hI : sf_I h) (hQ : ∀ h', sf_I h' → sf_E 158656014759537750657049329847037052570691453617220321851828541525213930544336739839240040150884948501253326789177578740514816 h h' → Q none h') : mx_C E (mx_fn true) (d + 2) 23 [.inr (.inr (t0, 30)), .inr (.inr (a1, 0)), .inl (.int a2)] h Q :=
  sg23_0 (sf_fill (a := .inr (t0, 34)) (m := 84615164005151820665845159428194693098035799419427996068435045795123941278247852265624218936283556460491675139202989862944768) (r := 415) rfl (by decide +kernel) (fun _ => rfl) ivk_0 (by decide +kernel) (by decide +kernel) (sf_uI (r := 400) hI rfl (srd_379_s_0_0 hI) (by decide +kernel)) (fun h2107 I2108 E2109 => hx_n (sf23_18 hQ  _ (Nat.lt_succ_self _)  pa2 (iv_w (c := 0) (d := 6) ivk_0 (by decide +kernel)) I2108 (sf_Et (by decide +kernel) (sf_Eu (r := 400) rfl (by decide +kernel) (sf_E0 _ _)) E2109))))
set_option maxRecDepth 10000 in
theorem sf22 {E : mx_Ev} {d : Nat} {h : mx_H} {Q : Option mx_V → mx_H → Prop} {t0 : Nat} {a1 : Nat}  (hI : sf_I h) (hQ : ∀ h', sf_I h' → sf_E 158656014759537750657049329847037052570691453617220321851828541525213930544336739839240040150884948501253326789177578740514816 h h' → Q none h') : mx_C E (mx_fn true) (d + 3) 22 [.inr (.inr (t0, 30)), .inr (.inr (a1, 0))] h Q :=
  sg22_0 (sf23 (iv_w (c := -14) (d := 8) ivk_0 (by decide +kernel)) hI (fun h2113 I2114 E2115  => hx_n (hQ _ I2114 (sf_Et (by decide +kernel) (sf_E0 _ _) E2115) )))
set_option maxRecDepth 10000 in
theorem sf30_100 {E : mx_Ev} {d : Nat} {Q : Option mx_V → mx_H → Prop} {h0 : mx_H} (hQ : ∀ h', sf_I h' → sf_E 9476898368577003914574657855957805626980009534975935559664725129053881423163759453749912520863758323575067615590734864649814016 h0 h' → Q none h') {n55 : Nat} (hO55 : ∀ {a0 : Nat} {a1 : Int32} {a3 : Int32} {h : mx_H}, (2147483647 - a3.toInt).toNat < n55 → sf_iv 0 5 a1 → sf_iv 2 7 a3 → sf_I h → sf_E 9476898368577003914574657855957805626980009534975935559664725129053881423163759453749912520863758323575067615590734864649814016 h0 h → mx_T E (mx_fn true) d 0 0 30 55 [(0, .inr (.inr (a0, 30))), (1, .inl (.int a1)), (3, .inl (.int a3))] [] h Q) {n78 : Nat} (hO78 : ∀ {a0 : Nat} {a1 : Int32} {a3 : Int32} {a4 : Int32} {a5 : Int32} {h : mx_H}, (2147483647 - a5.toInt).toNat < n78 → (2147483647 - a3.toInt).toNat < n55 + 1 → sf_iv 1 5 a1 → sf_iv 2 6 a3 → sf_iv 0 1 a4 → sf_iv 0 5 a5 → sf_I h → sf_E 9476898368577003914574657855957805626980009534975935559664725129053881423163759453749912520863758323575067615590734864649814016 h0 h → mx_T E (mx_fn true) d 0 0 30 78 [(0, .inr (.inr (a0, 30))), (1, .inl (.int a1)), (3, .inl (.int a3)), (4, .inl (.int a4)), (5, .inl (.int a5))] [] h Q) : ∀ (n : Nat) {a0 : Nat} {a1 : Int32} {a3 : Int32} {a4 : Int32} {a5 : Int32} {a6 : Int32} {h : mx_H}, (2147483647 - a6.toInt).toNat < n → (2147483647 - a3.toInt).toNat < n55 + 1 → (2147483647 - a5.toInt).toNat < n78 + 1 → sf_iv 1 5 a1 → sf_iv 2 6 a3 → sf_iv 1 1 a4 → sf_iv 0 4 a5 → sf_iv 0 5 a6 → sf_I h → sf_E 9476898368577003914574657855957805626980009534975935559664725129053881423163759453749912520863758323575067615590734864649814016 h0 h → mx_T E (mx_fn true) d 0 0 30 100 [(0, .inr (.inr (a0, 30))), (1, .inl (.int a1)), (3, .inl (.int a3)), (4, .inl (.int a4)), (5, .inl (.int a5)), (6, .inl (.int a6))] [] h Q
  | 0, _, _, _, _, _, _, _, hm, _, _, _, _, _, _, _, _, _ => absurd hm (Nat.not_lt_zero _)
  | n + 1, a0, a1, a3, a4, a5, a6, h, hm, hm55, hm78, pa1, pa3, pa4, pa5, pa6, hI, hE => sg30_100 ⟨fun g2264 => hO78 (iv_up hm78 pa5 (by decide +kernel)) hm55 pa1 pa3 (iv_w (c := 0) (d := 1) pa4 (by decide +kernel)) (iv_w (c := 0) (d := 5) (iv_add (lo := 1) (hi := 5) pa5 ivk_1 (by decide +kernel)) (by decide +kernel)) hI hE, fun g2265 => ⟨(show vp_in _ 6 from (iv_in pa5 (by decide +kernel))), ⟨(show vp_in _ 36 from (iv_in (iv_add (lo := 0) (hi := 28) (iv_mul (lo := 0) (hi := 24) (iv_w (c := 0) (d := 6) ivk_6 (by decide +kernel)) pa5 (by decide +kernel)) (iv_w (c := 0) (d := 4) (iv_ltl (Int32.not_le.mp g2265) pa6 pa1) (by decide +kernel)) (by decide +kernel)) (by decide +kernel))), ⟨(show vp_in _ 6 from (iv_in (iv_w (c := 0) (d := 4) (iv_ltl (Int32.not_le.mp g2265) pa6 pa1) (by decide +kernel)) (by decide +kernel))), ⟨(show vp_in _ 6 from (iv_in pa5 (by decide +kernel))), sf30_100 hQ hO55 hO78 n (iv_up hm (iv_w (c := 0) (d := 4) (iv_ltl (Int32.not_le.mp g2265) pa6 pa1) (by decide +kernel)) (by decide +kernel)) hm55 hm78 pa1 pa3 pa4 pa5 (iv_w (c := 0) (d := 5) (iv_add (lo := 1) (hi := 5) (iv_w (c := 0) (d := 4) (iv_ltl (Int32.not_le.mp g2265) pa6 pa1) (by decide +kernel)) ivk_1 (by decide +kernel)) (by decide +kernel)) (sf_uL hI) (sf_EL hE)⟩⟩⟩⟩⟩
set_option maxRecDepth 10000 in
theorem sf30_224 {E : mx_Ev} {d : Nat} {Q : Option mx_V → mx_H → Prop} {h0 : mx_H} (hQ : ∀ h', sf_I h' → sf_E 9476898368577003914574657855957805626980009534975935559664725129053881423163759453749912520863758323575067615590734864649814016 h0 h' → Q none h') {n55 : Nat} (hO55 : ∀ {a0 : Nat} {a1 : Int32} {a3 : Int32} {h : mx_H}, (2147483647 - a3.toInt).toNat < n55 → sf_iv 0 5 a1 → sf_iv 2 7 a3 → sf_I h → sf_E 9476898368577003914574657855957805626980009534975935559664725129053881423163759453749912520863758323575067615590734864649814016 h0 h → mx_T E (mx_fn true) d 0 0 30 55 [(0, .inr (.inr (a0, 30))), (1, .inl (.int a1)), (3, .inl (.int a3))] [] h Q) : ∀ (n : Nat) {a0 : Nat} {a1 : Int32} {a3 : Int32} {a4 : Int32} {a7 : Int32} {h : mx_H}, (2147483647 - a7.toInt).toNat < n → (2147483647 - a3.toInt).toNat < n55 + 1 → sf_iv 1 5 a1 → sf_iv 2 6 a3 → sf_iv 0 1 a4 → sf_iv 0 5 a7 → sf_I h → sf_E 9476898368577003914574657855957805626980009534975935559664725129053881423163759453749912520863758323575067615590734864649814016 h0 h → mx_T E (mx_fn true) d 0 0 30 224 [(0, .inr (.inr (a0, 30))), (1, .inl (.int a1)), (3, .inl (.int a3)), (4, .inl (.int a4)), (7, .inl (.int a7))] [] h Q
  | 0, _, _, _, _, _, _, hm, _, _, _, _, _, _, _ => absurd hm (Nat.not_lt_zero _)
  | n + 1, a0, a1, a3, a4, a7, h, hm, hm55, pa1, pa3, pa4, pa7, hI, hE => sg30_224 ⟨fun g2267 => hO55 (iv_up hm55 pa3 (by decide +kernel))  (iv_w (c := 0) (d := 5) pa1 (by decide +kernel)) (iv_w (c := 2) (d := 7) (iv_add (lo := 3) (hi := 7) pa3 ivk_1 (by decide +kernel)) (by decide +kernel)) hI hE, fun g2268 => ⟨fun g2269 => hO55 (iv_up hm55 pa3 (by decide +kernel))  (iv_w (c := 0) (d := 5) pa1 (by decide +kernel)) (iv_w (c := 2) (d := 7) (iv_add (lo := 3) (hi := 7) pa3 ivk_1 (by decide +kernel)) (by decide +kernel)) hI hE, fun g2270 => ⟨(show vp_in _ 6 from (iv_in (iv_w (c := 0) (d := 4) (iv_ltl (Int32.not_le.mp g2268) pa7 pa1) (by decide +kernel)) (by decide +kernel))), ⟨(show vp_in _ 6 from (iv_in (iv_w (c := 0) (d := 4) (iv_ltl (Int32.not_le.mp g2268) pa7 pa1) (by decide +kernel)) (by decide +kernel))), sf30_224 hQ hO55 n (iv_up hm (iv_w (c := 0) (d := 4) (iv_ltl (Int32.not_le.mp g2268) pa7 pa1) (by decide +kernel)) (by decide +kernel)) hm55 pa1 pa3 (iv_w (c := 0) (d := 1) (iv_w (c := 1) (d := 1) (iv_nel g2270 pa4 ivk_0) (by decide +kernel)) (by decide +kernel)) (iv_w (c := 0) (d := 5) (iv_add (lo := 1) (hi := 5) (iv_w (c := 0) (d := 4) (iv_ltl (Int32.not_le.mp g2268) pa7 pa1) (by decide +kernel)) ivk_1 (by decide +kernel)) (by decide +kernel)) (sf_uL hI) (sf_EL hE)⟩⟩⟩⟩
set_option maxRecDepth 10000 in
theorem sf30_155 {E : mx_Ev} {d : Nat} {Q : Option mx_V → mx_H → Prop} {h0 : mx_H} (hQ : ∀ h', sf_I h' → sf_E 9476898368577003914574657855957805626980009534975935559664725129053881423163759453749912520863758323575067615590734864649814016 h0 h' → Q none h') {n55 : Nat} (hO55 : ∀ {a0 : Nat} {a1 : Int32} {a3 : Int32} {h : mx_H}, (2147483647 - a3.toInt).toNat < n55 → sf_iv 0 5 a1 → sf_iv 2 7 a3 → sf_I h → sf_E 9476898368577003914574657855957805626980009534975935559664725129053881423163759453749912520863758323575067615590734864649814016 h0 h → mx_T E (mx_fn true) d 0 0 30 55 [(0, .inr (.inr (a0, 30))), (1, .inl (.int a1)), (3, .inl (.int a3))] [] h Q) : ∀ (n : Nat) {a0 : Nat} {a1 : Int32} {a3 : Int32} {a4 : Int32} {a5 : Int64} {a7 : Int32} {h : mx_H}, (2147483647 - a7.toInt).toNat < n → (2147483647 - a3.toInt).toNat < n55 + 1 → sf_iv 1 5 a1 → sf_iv 2 6 a3 → sf_iv 0 1 a4 → sf_iv 0 5 a7 → sf_I h → sf_E 9476898368577003914574657855957805626980009534975935559664725129053881423163759453749912520863758323575067615590734864649814016 h0 h → mx_T E (mx_fn true) d 0 0 30 155 [(0, .inr (.inr (a0, 30))), (1, .inl (.int a1)), (3, .inl (.int a3)), (4, .inl (.int a4)), (5, .inl (.long a5)), (7, .inl (.int a7))] [] h Q
  | 0, _, _, _, _, _, _, _, hm, _, _, _, _, _, _, _ => absurd hm (Nat.not_lt_zero _)
  | n + 1, a0, a1, a3, a4, a5, a7, h, hm, hm55, pa1, pa3, pa4, pa7, hI, hE => sg30_155 ⟨fun g2272 => ⟨fun g2273 => ⟨(show vp_in _ 7 from (iv_in pa3 (by decide +kernel))), sf30_224 hQ hO55 _ (Nat.lt_succ_self _) hm55 pa1 pa3 (iv_w (c := 0) (d := 1) (iv_w (c := 0) (d := 0) (iv_eql g2273 pa4 ivk_0) (by decide +kernel)) (by decide +kernel)) (iv_w (c := 0) (d := 5) ivk_0 (by decide +kernel)) (sf_uL hI) (sf_EL hE)⟩, fun g2275 => ⟨(show vp_in _ 7 from (iv_in pa3 (by decide +kernel))), sf30_224 hQ hO55 _ (Nat.lt_succ_self _) hm55 pa1 pa3 (iv_w (c := 0) (d := 1) (iv_w (c := 1) (d := 1) (iv_nel g2275 pa4 ivk_0) (by decide +kernel)) (by decide +kernel)) (iv_w (c := 0) (d := 5) ivk_0 (by decide +kernel)) (sf_uL hI) (sf_EL hE)⟩⟩, fun g2277 => ⟨(show vp_in _ 6 from (iv_in (iv_w (c := 0) (d := 4) (iv_ltl (Int32.not_le.mp g2277) pa7 pa1) (by decide +kernel)) (by decide +kernel))), ⟨fun g2278 => ⟨(show vp_in _ 6 from (iv_in (iv_w (c := 0) (d := 4) (iv_ltl (Int32.not_le.mp g2277) pa7 pa1) (by decide +kernel)) (by decide +kernel))), sf30_155 hQ hO55 n (iv_up hm (iv_w (c := 0) (d := 4) (iv_ltl (Int32.not_le.mp g2277) pa7 pa1) (by decide +kernel)) (by decide +kernel)) hm55 pa1 pa3 (iv_w (c := 0) (d := 1) (iv_w (c := 0) (d := 0) (iv_eql g2278 pa4 ivk_0) (by decide +kernel)) (by decide +kernel)) (iv_w (c := 0) (d := 5) (iv_add (lo := 1) (hi := 5) (iv_w (c := 0) (d := 4) (iv_ltl (Int32.not_le.mp g2277) pa7 pa1) (by decide +kernel)) ivk_1 (by decide +kernel)) (by decide +kernel)) hI hE⟩, fun g2279 => ⟨(show vp_in _ 6 from (iv_in (iv_w (c := 0) (d := 4) (iv_ltl (Int32.not_le.mp g2277) pa7 pa1) (by decide +kernel)) (by decide +kernel))), sf30_155 hQ hO55 n (iv_up hm (iv_w (c := 0) (d := 4) (iv_ltl (Int32.not_le.mp g2277) pa7 pa1) (by decide +kernel)) (by decide +kernel)) hm55 pa1 pa3 (iv_w (c := 0) (d := 1) (iv_w (c := 1) (d := 1) (iv_nel g2279 pa4 ivk_0) (by decide +kernel)) (by decide +kernel)) (iv_w (c := 0) (d := 5) (iv_add (lo := 1) (hi := 5) (iv_w (c := 0) (d := 4) (iv_ltl (Int32.not_le.mp g2277) pa7 pa1) (by decide +kernel)) ivk_1 (by decide +kernel)) (by decide +kernel)) hI hE⟩⟩⟩⟩
set_option maxRecDepth 10000 in
theorem sf30_78 {E : mx_Ev} {d : Nat} {Q : Option mx_V → mx_H → Prop} {h0 : mx_H} (hQ : ∀ h', sf_I h' → sf_E 9476898368577003914574657855957805626980009534975935559664725129053881423163759453749912520863758323575067615590734864649814016 h0 h' → Q none h') {n55 : Nat} (hO55 : ∀ {a0 : Nat} {a1 : Int32} {a3 : Int32} {h : mx_H}, (2147483647 - a3.toInt).toNat < n55 → sf_iv 0 5 a1 → sf_iv 2 7 a3 → sf_I h → sf_E 9476898368577003914574657855957805626980009534975935559664725129053881423163759453749912520863758323575067615590734864649814016 h0 h → mx_T E (mx_fn true) d 0 0 30 55 [(0, .inr (.inr (a0, 30))), (1, .inl (.int a1)), (3, .inl (.int a3))] [] h Q) : ∀ (n : Nat) {a0 : Nat} {a1 : Int32} {a3 : Int32} {a4 : Int32} {a5 : Int32} {h : mx_H}, (2147483647 - a5.toInt).toNat < n → (2147483647 - a3.toInt).toNat < n55 + 1 → sf_iv 1 5 a1 → sf_iv 2 6 a3 → sf_iv 0 1 a4 → sf_iv 0 5 a5 → sf_I h → sf_E 9476898368577003914574657855957805626980009534975935559664725129053881423163759453749912520863758323575067615590734864649814016 h0 h → mx_T E (mx_fn true) d 0 0 30 78 [(0, .inr (.inr (a0, 30))), (1, .inl (.int a1)), (3, .inl (.int a3)), (4, .inl (.int a4)), (5, .inl (.int a5))] [] h Q
  | 0, _, _, _, _, _, _, hm, _, _, _, _, _, _, _ => absurd hm (Nat.not_lt_zero _)
  | n + 1, a0, a1, a3, a4, a5, h, hm, hm55, pa1, pa3, pa4, pa5, hI, hE => sg30_78 ⟨fun g2280 => sf30_155 hQ hO55 _ (Nat.lt_succ_self _) hm55 pa1 pa3 pa4 (iv_w (c := 0) (d := 5) ivk_0 (by decide +kernel)) hI hE, fun g2281 => ⟨fun g2282 => sf30_155 hQ hO55 _ (Nat.lt_succ_self _) hm55 pa1 pa3 (iv_w (c := 0) (d := 1) (iv_w (c := 0) (d := 0) (iv_eql g2282 pa4 ivk_0) (by decide +kernel)) (by decide +kernel)) (iv_w (c := 0) (d := 5) ivk_0 (by decide +kernel)) hI hE, fun g2283 => ⟨(show vp_in _ 6 from (iv_in (iv_w (c := 0) (d := 4) (iv_ltl (Int32.not_le.mp g2281) pa5 pa1) (by decide +kernel)) (by decide +kernel))), sf30_100 hQ hO55 (sf30_78 hQ hO55 n) _ (Nat.lt_succ_self _) hm55 hm pa1 pa3 (iv_w (c := 1) (d := 1) (iv_nel g2283 pa4 ivk_0) (by decide +kernel)) (iv_w (c := 0) (d := 4) (iv_ltl (Int32.not_le.mp g2281) pa5 pa1) (by decide +kernel)) (iv_w (c := 0) (d := 5) ivk_0 (by decide +kernel)) (sf_uL hI) (sf_EL hE)⟩⟩⟩
set_option maxRecDepth 10000 in
theorem sf30_55 {E : mx_Ev} {d : Nat} {Q : Option mx_V → mx_H → Prop} {h0 : mx_H} (hQ : ∀ h', sf_I h' → sf_E 9476898368577003914574657855957805626980009534975935559664725129053881423163759453749912520863758323575067615590734864649814016 h0 h' → Q none h') : ∀ (n : Nat) {a0 : Nat} {a1 : Int32} {a3 : Int32} {h : mx_H}, (2147483647 - a3.toInt).toNat < n → sf_iv 0 5 a1 → sf_iv 2 7 a3 → sf_I h → sf_E 9476898368577003914574657855957805626980009534975935559664725129053881423163759453749912520863758323575067615590734864649814016 h0 h → mx_T E (mx_fn true) d 0 0 30 55 [(0, .inr (.inr (a0, 30))), (1, .inl (.int a1)), (3, .inl (.int a3))] [] h Q
  | 0, _, _, _, _, hm, _, _, _, _ => absurd hm (Nat.not_lt_zero _)
  | n + 1, a0, a1, a3, h, hm, pa1, pa3, hI, hE => sg30_55 ⟨fun g2285 => hQ _ hI hE , fun g2286 => ⟨(by decide +kernel), ⟨fun g2287 => sf30_78 hQ (sf30_55 hQ  n) _ (Nat.lt_succ_self _) hm (iv_ua (lo := 1) (hi := 5) (k := 1) pa1 (iv_w (c := 2) (d := 6) (iv_ler (Int32.not_lt.mp g2286) pa3 (iv_add (lo := 1) (hi := 6) pa1 ivk_1 (by decide +kernel))) (by decide +kernel)) rfl (by decide +kernel)) (iv_w (c := 2) (d := 6) (iv_lel (Int32.not_lt.mp g2286) pa3 (iv_add (lo := 1) (hi := 6) pa1 ivk_1 (by decide +kernel))) (by decide +kernel)) (iv_w (c := 0) (d := 1) ivk_0 (by decide +kernel)) (iv_w (c := 0) (d := 5) ivk_0 (by decide +kernel)) hI hE, fun g2288 => sf30_78 hQ (sf30_55 hQ  n) _ (Nat.lt_succ_self _) hm (iv_ua (lo := 1) (hi := 5) (k := 1) pa1 (iv_w (c := 2) (d := 6) (iv_ler (Int32.not_lt.mp g2286) pa3 (iv_add (lo := 1) (hi := 6) pa1 ivk_1 (by decide +kernel))) (by decide +kernel)) rfl (by decide +kernel)) (iv_w (c := 2) (d := 6) (iv_lel (Int32.not_lt.mp g2286) pa3 (iv_add (lo := 1) (hi := 6) pa1 ivk_1 (by decide +kernel))) (by decide +kernel)) (iv_w (c := 0) (d := 1) ivk_1 (by decide +kernel)) (iv_w (c := 0) (d := 5) ivk_0 (by decide +kernel)) hI hE⟩⟩⟩
set_option maxRecDepth 10000 in
theorem sf30_28 {E : mx_Ev} {d : Nat} {Q : Option mx_V → mx_H → Prop} {h0 : mx_H} (hQ : ∀ h', sf_I h' → sf_E 9476898368577003914574657855957805626980009534975935559664725129053881423163759453749912520863758323575067615590734864649814016 h0 h' → Q none h') : ∀ (n : Nat) {a0 : Nat} {a1 : Int32} {a2 : Int32} {a3 : Int32} {h : mx_H}, (2147483647 - a3.toInt).toNat < n → sf_iv 0 5 a1 → sf_iv 0 30 a2 → sf_iv 0 5 a3 → sf_I h → sf_E 9476898368577003914574657855957805626980009534975935559664725129053881423163759453749912520863758323575067615590734864649814016 h0 h → mx_T E (mx_fn true) d 0 0 30 28 [(0, .inr (.inr (a0, 30))), (1, .inl (.int a1)), (2, .inl (.int a2)), (3, .inl (.int a3))] [] h Q
  | 0, _, _, _, _, _, hm, _, _, _, _, _ => absurd hm (Nat.not_lt_zero _)
  | n + 1, a0, a1, a2, a3, h, hm, pa1, pa2, pa3, hI, hE => sg30_28 ⟨fun g2289 => sf30_55 hQ  _ (Nat.lt_succ_self _)  pa1 (iv_w (c := 2) (d := 7) ivk_2 (by decide +kernel)) hI hE, fun g2290 => ⟨(show vp_in _ 36 from (iv_in (iv_add (lo := 0) (hi := 34) pa2 (iv_w (c := 0) (d := 4) (iv_ltl (Int32.not_le.mp g2290) pa3 pa1) (by decide +kernel)) (by decide +kernel)) (by decide +kernel))), ⟨(show vp_in _ 6 from (iv_in (iv_w (c := 0) (d := 4) (iv_ltl (Int32.not_le.mp g2290) pa3 pa1) (by decide +kernel)) (by decide +kernel))), sf30_28 hQ  n (iv_up hm (iv_w (c := 0) (d := 4) (iv_ltl (Int32.not_le.mp g2290) pa3 pa1) (by decide +kernel)) (by decide +kernel))  (iv_w (c := 0) (d := 5) (iv_w (c := 1) (d := 5) (iv_ltr (Int32.not_le.mp g2290) pa3 pa1) (by decide +kernel)) (by decide +kernel)) pa2 (iv_w (c := 0) (d := 5) (iv_add (lo := 1) (hi := 5) (iv_w (c := 0) (d := 4) (iv_ltl (Int32.not_le.mp g2290) pa3 pa1) (by decide +kernel)) ivk_1 (by decide +kernel)) (by decide +kernel)) (sf_uL hI) (sf_EL hE)⟩⟩⟩
set_option maxRecDepth 10000 in
theorem sf30 {E : mx_Ev} {d : Nat} {h : mx_H} {Q : Option mx_V → mx_H → Prop} {t0 : Nat} {a1 : Int32} (pa1 : sf_iv 0 5 a1) (hI : sf_I h) (hQ : ∀ h', sf_I h' → sf_E 9476898368577003914574657855957805626980009534975935559664725129053881423163759453749912520863758323575067615590734864649814016 h h' → Q none h') : mx_C E (mx_fn true) d 30 [.inr (.inr (t0, 30)), .inl (.int a1)] h Q :=
  sg30_0 ⟨(show vp_in _ 7 from (iv_in ivk_0 (by decide +kernel))), ⟨(show vp_in _ 36 from (iv_in (iv_add (lo := 0) (hi := 35) (iv_mul (lo := 0) (hi := 30) (iv_w (c := 0) (d := 6) ivk_6 (by decide +kernel)) pa1 (by decide +kernel)) pa1 (by decide +kernel)) (by decide +kernel))), ⟨(show vp_in _ 7 from (iv_in ivk_1 (by decide +kernel))), sf30_28 hQ  _ (Nat.lt_succ_self _)  pa1 (iv_mul (lo := 0) (hi := 30) (iv_w (c := 0) (d := 6) ivk_6 (by decide +kernel)) pa1 (by decide +kernel)) (iv_w (c := 0) (d := 5) ivk_0 (by decide +kernel)) (sf_uL (sf_uL hI)) (sf_EL (sf_EL (sf_E0 _ _)))⟩⟩⟩
set_option maxRecDepth 10000 in
theorem sf98 {E : mx_Ev} {d : Nat} {h : mx_H} {Q : Option mx_V → mx_H → Prop} {a0 : Nat} {a1 : Int32} {a2 : Nat} {a3 : Int32} (pa1 : sf_iv 0 5 a1) (pa3 : sf_iv 0 5 a3) (hI : sf_I h) (hQ : ∀ x h', sf_I h' → sf_E 0 h h' → sf_iv 0 1 x → Q (some (.inl (.int x))) h') : mx_C E (mx_fn true) d 98 [.inr (.inr (a0, 0)), .inl (.int a1), .inr (.inr (a2, 0)), .inl (.int a3)] h Q :=
  sg98_0 ⟨(show vp_in _ 6 from (iv_in pa1 (by decide +kernel))), ⟨(show vp_in _ 6 from (iv_in pa3 (by decide +kernel))), ⟨fun g3245 => ⟨Or.inl rfl, hQ _ _ hI (sf_E0 _ _) (iv_w (c := 0) (d := 1) ivk_0 (by decide +kernel)) ⟩, fun g3246 => ⟨(show vp_in _ 6 from (iv_in pa1 (by decide +kernel))), ⟨(show vp_in _ 6 from (iv_in pa3 (by decide +kernel))), ⟨fun g3247 => ⟨Or.inl rfl, hQ _ _ hI (sf_E0 _ _) (iv_w (c := 0) (d := 1) ivk_0 (by decide +kernel)) ⟩, fun g3248 => ⟨(show vp_in _ 6 from (iv_in pa1 (by decide +kernel))), ⟨(show vp_in _ 6 from (iv_in pa3 (by decide +kernel))), ⟨fun g3249 => ⟨Or.inl rfl, hQ _ _ hI (sf_E0 _ _) (iv_w (c := 0) (d := 1) ivk_0 (by decide +kernel)) ⟩, fun g3250 => ⟨(show vp_in _ 6 from (iv_in pa1 (by decide +kernel))), ⟨(show vp_in _ 6 from (iv_in pa3 (by decide +kernel))), ⟨fun g3251 => ⟨Or.inl rfl, hQ _ _ hI (sf_E0 _ _) (iv_w (c := 0) (d := 1) ivk_0 (by decide +kernel)) ⟩, fun g3252 => ⟨Or.inr rfl, hQ _ _ hI (sf_E0 _ _) (iv_w (c := 0) (d := 1) ivk_1 (by decide +kernel)) ⟩⟩⟩⟩⟩⟩⟩⟩⟩⟩⟩⟩⟩
set_option maxRecDepth 10000 in
theorem sf27 {E : mx_Ev} {d : Nat} {h : mx_H} {Q : Option mx_V → mx_H → Prop} {t0 : Nat} {a1 : Int32} {a2 : Int32} (pa1 : sf_iv 0 5 a1) (pa2 : sf_iv 0 5 a2) (hI : sf_I h) (hQ : ∀ x h', sf_I h' → sf_E 0 h h' → sf_iv (-2147483648) 2147483647 x → Q (some (.inl (.int x))) h') : mx_C E (mx_fn true) d 27 [.inr (.inr (t0, 30)), .inl (.int a1), .inl (.int a2)] h Q :=
  sg27_0 ⟨(show vp_in _ 36 from (iv_in (iv_add (lo := 0) (hi := 35) (iv_mul (lo := 0) (hi := 30) (iv_w (c := 0) (d := 6) ivk_6 (by decide +kernel)) pa1 (by decide +kernel)) pa2 (by decide +kernel)) (by decide +kernel))), hQ _ _ hI (sf_E0 _ _) (srd_415_s_34_x hI (Int32.toNatClampNeg ((6 * a1) + a2))) ⟩
set_option maxRecDepth 10000 in
theorem sf99_2 {E : mx_Ev} {d : Nat} {Q : Option mx_V → mx_H → Prop} {h0 : mx_H} (hQ : ∀ x h', sf_I h' → sf_E 0 h0 h' → sf_iv 0 1 x → Q (some (.inl (.int x))) h') : ∀ (n : Nat) {a1 : Int32} {a2 : Int32} {a3 : Int32} {h : mx_H}, (2147483647 - a3.toInt).toNat < n → sf_iv 0 5 a1 → sf_iv 0 5 a2 → sf_iv 0 5 a3 → sf_I h → sf_E 0 h0 h → mx_T E (mx_fn true) (d + 1) 0 0 99 2 [(0, .inr (.inl 35)), (1, .inl (.int a1)), (2, .inl (.int a2)), (3, .inl (.int a3))] [] h Q
  | 0, _, _, _, _, hm, _, _, _, _, _ => absurd hm (Nat.not_lt_zero _)
  | n + 1, a1, a2, a3, h, hm, pa1, pa2, pa3, hI, hE => sg99_2 ⟨fun g3269 => ⟨Or.inr rfl, hQ _ _ hI hE (iv_w (c := 0) (d := 1) ivk_1 (by decide +kernel)) ⟩, fun g3270 => ⟨(iv_in (iv_w (c := 0) (d := 4) (iv_ltl (Int32.not_le.mp g3270) pa3 pa1) (by decide +kernel)) (by decide +kernel)), ⟨fun g3271 => ⟨Or.inl rfl, hQ _ _ hI hE (iv_w (c := 0) (d := 1) ivk_0 (by decide +kernel)) ⟩, fun g3272 => (sf27 (iv_w (c := 0) (d := 5) (iv_w (c := 0) (d := 4) (iv_ltl (Int32.not_le.mp g3270) pa3 pa1) (by decide +kernel)) (by decide +kernel)) (iv_w (c := 0) (d := 5) (iv_w (c := 1) (d := 5) (iv_ltr (Int32.not_le.mp g3270) pa3 pa1) (by decide +kernel)) (by decide +kernel)) hI (fun x3276 h3273 I3274 E3275 X3277  => hx_i ⟨(iv_in (iv_w (c := 0) (d := 4) (iv_ltl (Int32.not_le.mp g3270) pa3 pa1) (by decide +kernel)) (by decide +kernel)), (sf27 (iv_e (sf_fr (r := 91) E3275 rfl (by decide +kernel)) (srd_91_37_x hI (Int32.toNatClampNeg a3))) pa2 I3274 (fun x3281 h3278 I3279 E3280 X3282  => hx_i ⟨fun g3283 => sf99_2 hQ  n (iv_up hm (iv_w (c := 0) (d := 4) (iv_ltl (Int32.not_le.mp g3270) pa3 pa1) (by decide +kernel)) (by decide +kernel))  (iv_w (c := 0) (d := 5) (iv_w (c := 1) (d := 5) (iv_ltr (Int32.not_le.mp g3270) pa3 pa1) (by decide +kernel)) (by decide +kernel)) pa2 (iv_w (c := 0) (d := 5) (iv_add (lo := 1) (hi := 5) (iv_w (c := 0) (d := 4) (iv_ltl (Int32.not_le.mp g3270) pa3 pa1) (by decide +kernel)) ivk_1 (by decide +kernel)) (by decide +kernel)) I3279 (sf_Et (by decide +kernel) (sf_Et (by decide +kernel) hE E3275) E3280), fun g3284 => ⟨Or.inl rfl, hQ _ _ I3279 (sf_Et (by decide +kernel) (sf_Et (by decide +kernel) hE E3275) E3280) (iv_w (c := 0) (d := 1) ivk_0 (by decide +kernel)) ⟩⟩))⟩))⟩⟩⟩
set_option maxRecDepth 10000 in
theorem sf99 {E : mx_Ev} {d : Nat} {h : mx_H} {Q : Option mx_V → mx_H → Prop} {a1 : Int32} {a2 : Int32} (pa1 : sf_iv 0 5 a1) (pa2 : sf_iv 0 5 a2) (hI : sf_I h) (hQ : ∀ x h', sf_I h' → sf_E 0 h h' → sf_iv 0 1 x → Q (some (.inl (.int x))) h') : mx_C E (mx_fn true) (d + 1) 99 [.inr (.inl 35), .inl (.int a1), .inl (.int a2)] h Q :=
  sg99_0 (sf99_2 hQ  _ (Nat.lt_succ_self _)  pa1 pa2 (iv_w (c := 0) (d := 5) ivk_0 (by decide +kernel)) hI (sf_E0 _ _))
set_option maxRecDepth 10000 in
theorem sf100_4 {E : mx_Ev} {d : Nat} {Q : Option mx_V → mx_H → Prop} {h0 : mx_H} (hQ : ∀ h', sf_I h' → sf_E 1295968478626882475285020672 h0 h' → Q none h') : ∀ (n : Nat) {a1 : Int32} {a2 : Int32} {a3 : Int32} {h : mx_H}, (2147483647 - a3.toInt).toNat < n → sf_iv 0 6 a1 → sf_iv (-2147483648) 2147483647 a2 → sf_iv 0 6 a3 → sf_I h → sf_E 1295968478626882475285020672 h0 h → mx_T E (mx_fn true) d 0 0 100 4 [(0, .inr (.inl 35)), (1, .inl (.int a1)), (2, .inl (.int a2)), (3, .inl (.int a3))] [] h Q
  | 0, _, _, _, _, hm, _, _, _, _, _ => absurd hm (Nat.not_lt_zero _)
  | n + 1, a1, a2, a3, h, hm, pa1, pa2, pa3, hI, hE => sg100_4 ⟨fun g3289 => ⟨fun g3290 => hQ _ (sf_uI (r := 84) hI rfl (iv_rng _) (by decide +kernel)) (sf_Eu (r := 84) rfl (by decide +kernel) hE) , fun g3291 => hQ _ (sf_uI (r := 84) (sf_uI (r := 85) hI rfl pa2 (by decide +kernel)) rfl (iv_add (lo := 1) (hi := 1) (iv_g (by decide +kernel) (iv_w (c := 0) (d := 0) (iv_eql (Decidable.not_not.mp g3291) (srd_84_35_0 hI) ivk_0) (by decide +kernel))) ivk_1 (by decide +kernel)) (by decide +kernel)) (sf_Eu (r := 84) rfl (by decide +kernel) (sf_Eu (r := 85) rfl (by decide +kernel) hE)) ⟩, fun g3292 => ⟨(iv_in (iv_w (c := 0) (d := 5) (iv_ltl (Int32.not_le.mp g3292) pa3 pa1) (by decide +kernel)) (by decide +kernel)), ⟨(iv_in (iv_w (c := 0) (d := 5) (iv_ltl (Int32.not_le.mp g3292) pa3 pa1) (by decide +kernel)) (by decide +kernel)), ⟨(iv_in (iv_w (c := 0) (d := 5) (iv_ltl (Int32.not_le.mp g3292) pa3 pa1) (by decide +kernel)) (by decide +kernel)), ⟨(iv_in (iv_w (c := 0) (d := 5) (iv_ltl (Int32.not_le.mp g3292) pa3 pa1) (by decide +kernel)) (by decide +kernel)), sf100_4 hQ  n (iv_up hm (iv_w (c := 0) (d := 5) (iv_ltl (Int32.not_le.mp g3292) pa3 pa1) (by decide +kernel)) (by decide +kernel))  (iv_w (c := 0) (d := 6) (iv_w (c := 1) (d := 6) (iv_ltr (Int32.not_le.mp g3292) pa3 pa1) (by decide +kernel)) (by decide +kernel)) (iv_rng _) (iv_w (c := 0) (d := 6) (iv_add (lo := 1) (hi := 6) (iv_w (c := 0) (d := 5) (iv_ltl (Int32.not_le.mp g3292) pa3 pa1) (by decide +kernel)) ivk_1 (by decide +kernel)) (by decide +kernel)) (sf_uI (r := 90) hI rfl (iv_rng _) (by decide +kernel)) (sf_Eu (r := 90) rfl (by decide +kernel) hE)⟩⟩⟩⟩⟩
set_option maxRecDepth 10000 in
theorem sf100 {E : mx_Ev} {d : Nat} {h : mx_H} {Q : Option mx_V → mx_H → Prop} {a1 : Int32} (pa1 : sf_iv 0 6 a1) (hI : sf_I h) (hQ : ∀ h', sf_I h' → sf_E 1295968478626882475285020672 h h' → Q none h') : mx_C E (mx_fn true) d 100 [.inr (.inl 35), .inl (.int a1)] h Q :=
  sg100_0 (sf100_4 hQ  _ (Nat.lt_succ_self _)  pa1 (iv_w (c := -2147483648) (d := 2147483647) ivk_0 (by decide +kernel)) (iv_w (c := 0) (d := 6) ivk_0 (by decide +kernel)) hI (sf_E0 _ _))
set_option maxRecDepth 10000 in
theorem sf35_4 {E : mx_Ev} {d : Nat} {Q : Option mx_V → mx_H → Prop} {h0 : mx_H} (hQ : ∀ x h', sf_I h' → sf_E 0 h0 h' → Q (some (.inl (.long x))) h') : ∀ (n : Nat) {a0 : Nat} {a1 : Int64} {a3 : Int32} {h : mx_H}, (2147483647 - a3.toInt).toNat < n → sf_iv 0 6 a3 → sf_I h → sf_E 0 h0 h → mx_T E (mx_fn true) d 0 0 35 4 [(0, .inr (.inr (a0, 30))), (1, .inl (.long a1)), (3, .inl (.int a3))] [] h Q
  | 0, _, _, _, _, hm, _, _, _ => absurd hm (Nat.not_lt_zero _)
  | n + 1, a0, a1, a3, h, hm, pa3, hI, hE => sg35_4 ⟨fun g3528 => hQ _ _ hI hE, fun g3529 => ⟨(show vp_in _ 6 from (iv_in (iv_w (c := 0) (d := 5) (iv_ltl (Int32.not_le.mp g3529) pa3 (srd_407_s_30_7 hI)) (by decide +kernel)) (by decide +kernel))), ⟨(show vp_in _ 6 from (iv_in (srd_417_s_36_x hI (Int32.toNatClampNeg a3)) (by decide +kernel))), sf35_4 hQ  n (iv_up hm (iv_w (c := 0) (d := 5) (iv_ltl (Int32.not_le.mp g3529) pa3 (srd_407_s_30_7 hI)) (by decide +kernel)) (by decide +kernel))  (iv_w (c := 0) (d := 6) (iv_add (lo := 1) (hi := 6) (iv_w (c := 0) (d := 5) (iv_ltl (Int32.not_le.mp g3529) pa3 (srd_407_s_30_7 hI)) (by decide +kernel)) ivk_1 (by decide +kernel)) (by decide +kernel)) hI hE⟩⟩⟩
set_option maxRecDepth 10000 in
theorem sf35 {E : mx_Ev} {d : Nat} {h : mx_H} {Q : Option mx_V → mx_H → Prop} {t0 : Nat}  (hI : sf_I h) (hQ : ∀ x h', sf_I h' → sf_E 0 h h' → Q (some (.inl (.long x))) h') : mx_C E (mx_fn true) d 35 [.inr (.inr (t0, 30))] h Q :=
  sg35_0 (sf35_4 hQ  _ (Nat.lt_succ_self _)  (iv_w (c := 0) (d := 6) ivk_0 (by decide +kernel)) hI (sf_E0 _ _))
set_option maxRecDepth 10000 in
theorem sf43_2 {E : mx_Ev} {d : Nat} {Q : Option mx_V → mx_H → Prop} {h0 : mx_H} (hQ : ∀ x h', sf_I h' → sf_E 0 h0 h' → sf_iv 0 1 x → Q (some (.inl (.int x))) h') : ∀ (n : Nat) {a1 : Int32} {a2 : Int32} {a3 : Int32} {h : mx_H}, (2147483647 - a3.toInt).toNat < n → sf_iv 3 4 a1 → sf_iv 0 14 a2 → sf_iv 0 6 a3 → sf_I h → sf_E 0 h0 h → mx_T E (mx_fn true) d 0 0 43 2 [(0, .inr (.inl 60)), (1, .inl (.int a1)), (2, .inl (.int a2)), (3, .inl (.int a3))] [] h Q
  | 0, _, _, _, _, hm, _, _, _, _, _ => absurd hm (Nat.not_lt_zero _)
  | n + 1, a1, a2, a3, h, hm, pa1, pa2, pa3, hI, hE => sg43_2 ⟨fun g3692 => ⟨Or.inl rfl, hQ _ _ hI hE (iv_w (c := 0) (d := 1) ivk_0 (by decide +kernel)) ⟩, fun g3693 => ⟨(iv_in (iv_w (c := 0) (d := 5) (iv_ltl (Int32.not_le.mp g3693) pa3 (srd_137_60_1 hI)) (by decide +kernel)) (by decide +kernel)), ⟨fun g3694 => sf43_2 hQ  n (iv_up hm (iv_w (c := 0) (d := 5) (iv_ltl (Int32.not_le.mp g3693) pa3 (srd_137_60_1 hI)) (by decide +kernel)) (by decide +kernel))  pa1 pa2 (iv_w (c := 0) (d := 6) (iv_add (lo := 1) (hi := 6) (iv_w (c := 0) (d := 5) (iv_ltl (Int32.not_le.mp g3693) pa3 (srd_137_60_1 hI)) (by decide +kernel)) ivk_1 (by decide +kernel)) (by decide +kernel)) hI hE, fun g3695 => ⟨(iv_in (iv_w (c := 0) (d := 5) (iv_ltl (Int32.not_le.mp g3693) pa3 (srd_137_60_1 hI)) (by decide +kernel)) (by decide +kernel)), ⟨fun g3696 => sf43_2 hQ  n (iv_up hm (iv_w (c := 0) (d := 5) (iv_ltl (Int32.not_le.mp g3693) pa3 (srd_137_60_1 hI)) (by decide +kernel)) (by decide +kernel))  pa1 pa2 (iv_w (c := 0) (d := 6) (iv_add (lo := 1) (hi := 6) (iv_w (c := 0) (d := 5) (iv_ltl (Int32.not_le.mp g3693) pa3 (srd_137_60_1 hI)) (by decide +kernel)) ivk_1 (by decide +kernel)) (by decide +kernel)) hI hE, fun g3697 => ⟨Or.inr rfl, hQ _ _ hI hE (iv_w (c := 0) (d := 1) ivk_1 (by decide +kernel)) ⟩⟩⟩⟩⟩⟩
set_option maxRecDepth 10000 in
theorem sf43 {E : mx_Ev} {d : Nat} {h : mx_H} {Q : Option mx_V → mx_H → Prop} {a1 : Int32} {a2 : Int32} (pa1 : sf_iv 3 4 a1) (pa2 : sf_iv 0 14 a2) (hI : sf_I h) (hQ : ∀ x h', sf_I h' → sf_E 0 h h' → sf_iv 0 1 x → Q (some (.inl (.int x))) h') : mx_C E (mx_fn true) d 43 [.inr (.inl 60), .inl (.int a1), .inl (.int a2)] h Q :=
  sg43_0 (sf43_2 hQ  _ (Nat.lt_succ_self _)  pa1 pa2 (iv_w (c := 0) (d := 6) ivk_0 (by decide +kernel)) hI (sf_E0 _ _))
set_option maxRecDepth 10000 in
theorem sf45_2 {E : mx_Ev} {d : Nat} {Q : Option mx_V → mx_H → Prop} {h0 : mx_H} (hQ : ∀ x h', sf_I h' → sf_E 0 h0 h' → sf_iv 0 1 x → Q (some (.inl (.int x))) h') : ∀ (n : Nat) {a1 : Int32} {a2 : Int32} {a3 : Int32} {h : mx_H}, (2147483647 - a3.toInt).toNat < n → sf_iv 0 5 a1 → sf_iv 1 9 a2 → sf_iv 0 6 a3 → sf_I h → sf_E 0 h0 h → mx_T E (mx_fn true) d 0 0 45 2 [(0, .inr (.inl 60)), (1, .inl (.int a1)), (2, .inl (.int a2)), (3, .inl (.int a3))] [] h Q
  | 0, _, _, _, _, hm, _, _, _, _, _ => absurd hm (Nat.not_lt_zero _)
  | n + 1, a1, a2, a3, h, hm, pa1, pa2, pa3, hI, hE => sg45_2 ⟨fun g4212 => ⟨Or.inl rfl, hQ _ _ hI hE (iv_w (c := 0) (d := 1) ivk_0 (by decide +kernel)) ⟩, fun g4213 => ⟨(iv_in (iv_w (c := 0) (d := 5) (iv_ltl (Int32.not_le.mp g4213) pa3 (srd_141_60_5 hI)) (by decide +kernel)) (by decide +kernel)), ⟨fun g4214 => sf45_2 hQ  n (iv_up hm (iv_w (c := 0) (d := 5) (iv_ltl (Int32.not_le.mp g4213) pa3 (srd_141_60_5 hI)) (by decide +kernel)) (by decide +kernel))  pa1 pa2 (iv_w (c := 0) (d := 6) (iv_add (lo := 1) (hi := 6) (iv_w (c := 0) (d := 5) (iv_ltl (Int32.not_le.mp g4213) pa3 (srd_141_60_5 hI)) (by decide +kernel)) ivk_1 (by decide +kernel)) (by decide +kernel)) hI hE, fun g4215 => ⟨(iv_in (iv_w (c := 0) (d := 5) (iv_ltl (Int32.not_le.mp g4213) pa3 (srd_141_60_5 hI)) (by decide +kernel)) (by decide +kernel)), ⟨fun g4216 => sf45_2 hQ  n (iv_up hm (iv_w (c := 0) (d := 5) (iv_ltl (Int32.not_le.mp g4213) pa3 (srd_141_60_5 hI)) (by decide +kernel)) (by decide +kernel))  pa1 pa2 (iv_w (c := 0) (d := 6) (iv_add (lo := 1) (hi := 6) (iv_w (c := 0) (d := 5) (iv_ltl (Int32.not_le.mp g4213) pa3 (srd_141_60_5 hI)) (by decide +kernel)) ivk_1 (by decide +kernel)) (by decide +kernel)) hI hE, fun g4217 => ⟨Or.inr rfl, hQ _ _ hI hE (iv_w (c := 0) (d := 1) ivk_1 (by decide +kernel)) ⟩⟩⟩⟩⟩⟩
set_option maxRecDepth 10000 in
theorem sf45 {E : mx_Ev} {d : Nat} {h : mx_H} {Q : Option mx_V → mx_H → Prop} {a1 : Int32} {a2 : Int32} (pa1 : sf_iv 0 5 a1) (pa2 : sf_iv 1 9 a2) (hI : sf_I h) (hQ : ∀ x h', sf_I h' → sf_E 0 h h' → sf_iv 0 1 x → Q (some (.inl (.int x))) h') : mx_C E (mx_fn true) d 45 [.inr (.inl 60), .inl (.int a1), .inl (.int a2)] h Q :=
  sg45_0 (sf45_2 hQ  _ (Nat.lt_succ_self _)  pa1 pa2 (iv_w (c := 0) (d := 6) ivk_0 (by decide +kernel)) hI (sf_E0 _ _))
set_option maxRecDepth 10000 in
theorem sf46 {E : mx_Ev} {d : Nat} {h : mx_H} {Q : Option mx_V → mx_H → Prop} {a1 : Int32} {a2 : Int32} {a3 : Int32} (pa1 : sf_iv 0 5 a1) (pa2 : sf_iv 1 9 a2) (pa3 : sf_iv 0 99 a3) (hI : sf_I h) (hQ : ∀ h', sf_I h' → sf_E 39965722988916692997524699109369944863905153024 h h' → Q none h') : mx_C E (mx_fn true) d 46 [.inr (.inl 60), .inl (.int a1), .inl (.int a2), .inl (.int a3)] h Q :=
  sg46_0 ⟨fun g4220 => ⟨(iv_in (iv_w (c := 0) (d := 5) (iv_ltl g4220 (srd_141_60_5 hI) ivk_6) (by decide +kernel)) (by decide +kernel)), ⟨(iv_in (iv_o (by decide +kernel) (iv_w (c := 0) (d := 5) (iv_ltl g4220 (srd_141_60_5 hI) ivk_6) (by decide +kernel))) (by decide +kernel)), ⟨(iv_in (iv_o (by decide +kernel) (iv_o (by decide +kernel) (iv_w (c := 0) (d := 5) (iv_ltl g4220 (srd_141_60_5 hI) ivk_6) (by decide +kernel)))) (by decide +kernel)), hQ _ (sf_uI (r := 141) (sf_uI (r := 154) (sf_uI (r := 153) (sf_uI (r := 152) hI rfl pa1 (by decide +kernel)) rfl pa2 (by decide +kernel)) rfl pa3 (by decide +kernel)) rfl (iv_add (lo := 1) (hi := 6) (iv_o (by decide +kernel) (iv_o (by decide +kernel) (iv_o (by decide +kernel) (iv_w (c := 0) (d := 5) (iv_ltl g4220 (srd_141_60_5 hI) ivk_6) (by decide +kernel))))) ivk_1 (by decide +kernel)) (by decide +kernel)) (sf_Eu (r := 141) rfl (by decide +kernel) (sf_Eu (r := 154) rfl (by decide +kernel) (sf_Eu (r := 153) rfl (by decide +kernel) (sf_Eu (r := 152) rfl (by decide +kernel) (sf_E0 _ _))))) ⟩⟩⟩, fun g4221 => hQ _ hI (sf_E0 _ _) ⟩
set_option maxRecDepth 10000 in
theorem sf47_4 {E : mx_Ev} {d : Nat} {Q : Option mx_V → mx_H → Prop} {h0 : mx_H} (hQ : ∀ x h', sf_I h' → sf_E 0 h0 h' → sf_iv (-1) 5 x → Q (some (.inl (.int x))) h') : ∀ (n : Nat) {a1 : Int32} {a2 : Int32} {h : mx_H}, (2147483647 - a2.toInt).toNat < n → sf_iv (-1) 5 a1 → sf_iv 0 6 a2 → sf_I h → sf_E 0 h0 h → mx_T E (mx_fn true) (d + 1) 0 0 47 4 [(0, .inr (.inl 60)), (1, .inl (.int a1)), (2, .inl (.int a2))] [] h Q
  | 0, _, _, _, hm, _, _, _, _ => absurd hm (Nat.not_lt_zero _)
  | n + 1, a1, a2, h, hm, pa1, pa2, hI, hE => sg47_4 ⟨fun g4644 => hQ _ _ hI hE pa1 , fun g4645 => ⟨(iv_in (iv_w (c := 0) (d := 5) (iv_ltl (Int32.not_le.mp g4645) pa2 (srd_141_60_5 hI)) (by decide +kernel)) (by decide +kernel)), sf47_4 hQ  n (iv_up hm (iv_w (c := 0) (d := 5) (iv_ltl (Int32.not_le.mp g4645) pa2 (srd_141_60_5 hI)) (by decide +kernel)) (by decide +kernel))  (iv_w (c := -1) (d := 5) (iv_max (lo := 0) (hi := 5) pa1 (srd_152_64_x hI (Int32.toNatClampNeg a2)) (by decide +kernel)) (by decide +kernel)) (iv_w (c := 0) (d := 6) (iv_add (lo := 1) (hi := 6) (iv_w (c := 0) (d := 5) (iv_ltl (Int32.not_le.mp g4645) pa2 (srd_141_60_5 hI)) (by decide +kernel)) ivk_1 (by decide +kernel)) (by decide +kernel)) hI hE⟩⟩
set_option maxRecDepth 10000 in
theorem sf47 {E : mx_Ev} {d : Nat} {h : mx_H} {Q : Option mx_V → mx_H → Prop}   (hI : sf_I h) (hQ : ∀ x h', sf_I h' → sf_E 0 h h' → sf_iv (-1) 5 x → Q (some (.inl (.int x))) h') : mx_C E (mx_fn true) (d + 1) 47 [.inr (.inl 60)] h Q :=
  sg47_0 (sf47_4 hQ  _ (Nat.lt_succ_self _)  (iv_w (c := -1) (d := 5) ivk_m1 (by decide +kernel)) (iv_w (c := 0) (d := 6) ivk_0 (by decide +kernel)) hI (sf_E0 _ _))
set_option maxRecDepth 10000 in
theorem sf12 {E : mx_Ev} {d : Nat} {h : mx_H} {Q : Option mx_V → mx_H → Prop} {a1 : Int32} (pa1 : sf_iv 0 99 a1) (hI : sf_I h) (hQ : ∀ h', sf_I h' → sf_E 5937350401656793105202469632909899767352225955840 h h' → Q none h') : mx_C E (mx_fn true) d 12 [.inr (.inl 68), .inl (.int a1)] h Q :=
  sg12_0 ⟨fun g4870 => ⟨(iv_in (iv_w (c := 0) (d := 5) (iv_ltl g4870 (srd_156_68_0 hI) ivk_6) (by decide +kernel)) (by decide +kernel)), hQ _ (sf_uI (r := 156) (sf_uI (r := 162) hI rfl pa1 (by decide +kernel)) rfl (iv_add (lo := 1) (hi := 6) (iv_o (by decide +kernel) (iv_w (c := 0) (d := 5) (iv_ltl g4870 (srd_156_68_0 hI) ivk_6) (by decide +kernel))) ivk_1 (by decide +kernel)) (by decide +kernel)) (sf_Eu (r := 156) rfl (by decide +kernel) (sf_Eu (r := 162) rfl (by decide +kernel) (sf_E0 _ _))) ⟩, fun g4871 => hQ _ hI (sf_E0 _ _) ⟩
set_option maxRecDepth 10000 in
theorem sf125 {E : mx_Ev} {d : Nat} {h : mx_H} {Q : Option mx_V → mx_H → Prop} {a1 : Int32} (pa1 : sf_iv (-2147483648) 2147483647 a1) (hI : sf_I h) (hQ : ∀ x h', sf_I h' → sf_E 5937350401656793105202469632909899767352225955840 h h' → sf_iv (-3) 6 x → Q (some (.inl (.int x))) h') : mx_C E (mx_fn true) (d + 1) 125 [.inr (.inl 0), .inl (.int a1)] h Q :=
  sg125_0 (sp_wi (fun g4883 => hx_i ⟨fun g4884 => ⟨fun g4885 => (sf12 (iv_w (c := 0) (d := 99) (iv_lel g4883.2 (iv_w (c := 0) (d := 2147483647) (iv_ler g4883.1 ivk_0 pa1) (by decide +kernel)) ivk_99) (by decide +kernel)) hI (fun h4886 I4887 E4888  => hx_n (hQ _ _ I4887 (sf_Et (by decide +kernel) (sf_E0 _ _) E4888) (iv_w (c := -3) (d := 6) (srd_156_68_0 I4887) (by decide +kernel)) ))), fun g4889 => hQ _ _ hI (sf_E0 _ _) (iv_w (c := -3) (d := 6) ivk_m3 (by decide +kernel)) ⟩, fun g4890 => (iv_no (iv_eql (Decidable.not_not.mp g4890) ivk_1 ivk_0) (by decide +kernel)).elim⟩) (fun g4891 => hx_i ⟨fun g4892 => (iv_no (iv_nel g4892 ivk_0 ivk_0) (by decide +kernel)).elim, fun g4893 => hQ _ _ hI (sf_E0 _ _) (iv_w (c := -3) (d := 6) ivk_m1 (by decide +kernel)) ⟩))
set_option maxRecDepth 10000 in
theorem sf15_26 {E : mx_Ev} {d : Nat} {Q : Option mx_V → mx_H → Prop} {h0 : mx_H} (hQ : ∀ x h', sf_I h' → sf_E 0 h0 h' → sf_iv 0 6 x → Q (some (.inl (.int x))) h') {n14 : Nat} (hO14 : ∀ {a1 : Int32} {a2 : Int32} {a3 : Int32} {a4 : Int32} {h : mx_H}, (2147483647 - a4.toInt).toNat < n14 → sf_iv 0 6 a1 → sf_iv 0 6 a2 → sf_iv 0 2147483647 a3 → sf_iv 0 6 a4 → sf_I h → sf_E 0 h0 h → mx_T E (mx_fn true) (d + 1) 0 0 15 14 [(0, .inr (.inl 68)), (1, .inl (.int a1)), (2, .inl (.int a2)), (3, .inl (.int a3)), (4, .inl (.int a4))] [] h Q) : ∀ (n : Nat) {a1 : Int32} {a2 : Int32} {a3 : Int32} {a4 : Int32} {a5 : Int32} {a6 : Int32} {h : mx_H}, (2147483647 - a6.toInt).toNat < n → (2147483647 - a4.toInt).toNat < n14 + 1 → sf_iv 1 6 a1 → sf_iv 0 6 a2 → sf_iv 0 2147483647 a3 → sf_iv 0 5 a4 → sf_iv 0 2147483647 a5 → sf_iv 0 100 a6 → sf_I h → sf_E 0 h0 h → mx_T E (mx_fn true) (d + 1) 0 0 15 26 [(0, .inr (.inl 68)), (1, .inl (.int a1)), (2, .inl (.int a2)), (3, .inl (.int a3)), (4, .inl (.int a4)), (5, .inl (.int a5)), (6, .inl (.int a6))] [] h Q
  | 0, _, _, _, _, _, _, _, hm, _, _, _, _, _, _, _, _, _ => absurd hm (Nat.not_lt_zero _)
  | n + 1, a1, a2, a3, a4, a5, a6, h, hm, hm14, pa1, pa2, pa3, pa4, pa5, pa6, hI, hE => sg15_26 ⟨fun g5076 => ⟨fun g5077 => hO14 (iv_up hm14 pa4 (by decide +kernel))  (iv_w (c := 0) (d := 6) pa1 (by decide +kernel)) pa2 pa3 (iv_w (c := 0) (d := 6) (iv_add (lo := 1) (hi := 6) pa4 ivk_1 (by decide +kernel)) (by decide +kernel)) hI hE, fun g5078 => hO14 (iv_up hm14 pa4 (by decide +kernel))  (iv_w (c := 0) (d := 6) pa1 (by decide +kernel)) (iv_w (c := 0) (d := 6) pa4 (by decide +kernel)) (iv_w (c := 0) (d := 2147483647) (iv_w (c := 0) (d := 2147483646) (iv_ltl (Int32.not_le.mp g5078) pa5 pa3) (by decide +kernel)) (by decide +kernel)) (iv_w (c := 0) (d := 6) (iv_add (lo := 1) (hi := 6) pa4 ivk_1 (by decide +kernel)) (by decide +kernel)) hI hE⟩, fun g5079 => ⟨(iv_in (iv_add (lo := 0) (hi := 599) (iv_mul (lo := 0) (hi := 500) (iv_w (c := 0) (d := 100) ivk_100 (by decide +kernel)) pa4 (by decide +kernel)) (iv_w (c := 0) (d := 99) (iv_lel (Int32.not_lt.mp g5079) pa6 ivk_99) (by decide +kernel)) (by decide +kernel)) (by decide +kernel)), sf15_26 hQ hO14 n (iv_up hm (iv_w (c := 0) (d := 99) (iv_lel (Int32.not_lt.mp g5079) pa6 ivk_99) (by decide +kernel)) (by decide +kernel)) hm14 pa1 pa2 pa3 pa4 (iv_max (lo := 0) (hi := 2147483647) pa5 (srd_163_70_x hI (Int32.toNatClampNeg ((100 * a4) + a6))) (by decide +kernel)) (iv_w (c := 0) (d := 100) (iv_add (lo := 1) (hi := 100) (iv_w (c := 0) (d := 99) (iv_lel (Int32.not_lt.mp g5079) pa6 ivk_99) (by decide +kernel)) ivk_1 (by decide +kernel)) (by decide +kernel)) hI hE⟩⟩
set_option maxRecDepth 10000 in
theorem sf15_14 {E : mx_Ev} {d : Nat} {Q : Option mx_V → mx_H → Prop} {h0 : mx_H} (hQ : ∀ x h', sf_I h' → sf_E 0 h0 h' → sf_iv 0 6 x → Q (some (.inl (.int x))) h') : ∀ (n : Nat) {a1 : Int32} {a2 : Int32} {a3 : Int32} {a4 : Int32} {h : mx_H}, (2147483647 - a4.toInt).toNat < n → sf_iv 0 6 a1 → sf_iv 0 6 a2 → sf_iv 0 2147483647 a3 → sf_iv 0 6 a4 → sf_I h → sf_E 0 h0 h → mx_T E (mx_fn true) (d + 1) 0 0 15 14 [(0, .inr (.inl 68)), (1, .inl (.int a1)), (2, .inl (.int a2)), (3, .inl (.int a3)), (4, .inl (.int a4))] [] h Q
  | 0, _, _, _, _, _, hm, _, _, _, _, _, _ => absurd hm (Nat.not_lt_zero _)
  | n + 1, a1, a2, a3, a4, h, hm, pa1, pa2, pa3, pa4, hI, hE => sg15_14 ⟨fun g5080 => hQ _ _ hI hE pa2 , fun g5081 => sf15_26 hQ (sf15_14 hQ  n) _ (Nat.lt_succ_self _) hm (iv_w (c := 1) (d := 6) (iv_ltr (Int32.not_le.mp g5081) pa4 pa1) (by decide +kernel)) pa2 pa3 (iv_w (c := 0) (d := 5) (iv_ltl (Int32.not_le.mp g5081) pa4 pa1) (by decide +kernel)) (iv_w (c := 0) (d := 2147483647) ivk_0 (by decide +kernel)) (iv_w (c := 0) (d := 100) ivk_0 (by decide +kernel)) hI hE⟩
set_option maxRecDepth 10000 in
theorem sf15 {E : mx_Ev} {d : Nat} {h : mx_H} {Q : Option mx_V → mx_H → Prop} {a1 : Int32} (pa1 : sf_iv 0 6 a1) (hI : sf_I h) (hQ : ∀ x h', sf_I h' → sf_E 0 h h' → sf_iv 0 6 x → Q (some (.inl (.int x))) h') : mx_C E (mx_fn true) (d + 1) 15 [.inr (.inl 68), .inl (.int a1)] h Q :=
  sg15_0 (sf15_14 hQ  _ (Nat.lt_succ_self _)  pa1 (srd_156_68_0 hI) (iv_w (c := 0) (d := 2147483647) ivk_2147483647 (by decide +kernel)) (srd_156_68_0 hI) hI (sf_E0 _ _))
set_option maxRecDepth 10000 in
theorem sf128 {E : mx_Ev} {d : Nat} {h : mx_H} {Q : Option mx_V → mx_H → Prop}   (hI : sf_I h) (hQ : ∀ x h', sf_I h' → sf_E 91343852333181432387730302044767688728495783936 h h' → sf_iv 0 6 x → Q (some (.inl (.int x))) h') : mx_C E (mx_fn true) d 128 [.inr (.inl 0)] h Q :=
  sg128_0 (hQ _ _ (sf_uI (r := 156) hI rfl ivk_0 (by decide +kernel)) (sf_Eu (r := 156) rfl (by decide +kernel) (sf_E0 _ _)) (srd_156_68_0 hI) )
set_option maxRecDepth 10000 in
theorem sf129 {E : mx_Ev} {d : Nat} {h : mx_H} {Q : Option mx_V → mx_H → Prop} {a1 : Int32} (pa1 : sf_iv (-2147483648) 2147483647 a1) (hI : sf_I h) (hQ : ∀ x h', sf_I h' → sf_E 23384026197294446691258957323460528314494920687616 h h' → sf_iv (-1) 500 x → Q (some (.inl (.int x))) h') : mx_C E (mx_fn true) (d + 1) 129 [.inr (.inl 0), .inl (.int a1)] h Q :=
  sg129_0 (sp_wi (fun g5160 => hx_i ⟨fun g5161 => hQ _ _ (sf_uI (r := 164) hI rfl (iv_w (c := 0) (d := 500) (iv_lel g5160.2 (iv_w (c := 0) (d := 2147483647) (iv_ler g5160.1 ivk_0 pa1) (by decide +kernel)) ivk_500) (by decide +kernel)) (by decide +kernel)) (sf_Eu (r := 164) rfl (by decide +kernel) (sf_E0 _ _)) (iv_w (c := -1) (d := 500) (srd_164_71_0 hI) (by decide +kernel)) , fun g5162 => (iv_no (iv_eql (Decidable.not_not.mp g5162) ivk_1 ivk_0) (by decide +kernel)).elim⟩) (fun g5163 => hx_i ⟨fun g5164 => (iv_no (iv_nel g5164 ivk_0 ivk_0) (by decide +kernel)).elim, fun g5165 => hQ _ _ hI (sf_E0 _ _) (iv_w (c := -1) (d := 500) ivk_m1 (by decide +kernel)) ⟩))
set_option maxRecDepth 10000 in
theorem sf130 {E : mx_Ev} {d : Nat} {h : mx_H} {Q : Option mx_V → mx_H → Prop} {a1 : Int32} {a2 : Int32} (pa1 : sf_iv (-2147483648) 2147483647 a1) (pa2 : sf_iv (-2147483648) 2147483647 a2) (hI : sf_I h) (hQ : ∀ x h', sf_I h' → sf_E 47890485652059026823698344598447161988085597568237568 h h' → sf_iv (-2000000000) 5 x → Q (some (.inl (.int x))) h') : mx_C E (mx_fn true) (d + 2) 130 [.inr (.inl 0), .inl (.int a1), .inl (.int a2)] h Q :=
  sg130_0 (sg160_0 (sp_wi (fun g5178 => hx_i ⟨Or.inr rfl, hx_i ⟨fun g5179 => (iv_no (iv_eql g5179 ivk_1 ivk_0) (by decide +kernel)).elim, fun g5180 => (sp_wi (fun g5181 => hx_i ⟨fun g5182 => ⟨(iv_in (iv_w (c := 0) (d := 3) (iv_lel g5178.2 (iv_w (c := 0) (d := 2147483647) (iv_ler g5178.1 ivk_0 pa1) (by decide +kernel)) ivk_3) (by decide +kernel)) (by decide +kernel)), ⟨(iv_in (iv_w (c := 0) (d := 3) (iv_lel g5178.2 (iv_w (c := 0) (d := 2147483647) (iv_ler g5178.1 ivk_0 pa1) (by decide +kernel)) ivk_3) (by decide +kernel)) (by decide +kernel)), hQ _ _ (sf_uI (r := 175) hI rfl (iv_w (c := -1) (d := 5) (iv_lel g5181.2 (iv_w (c := -1) (d := 2147483647) (iv_ler g5181.1 ivk_m1 pa2) (by decide +kernel)) ivk_5) (by decide +kernel)) (by decide +kernel)) (sf_Eu (r := 175) rfl (by decide +kernel) (sf_E0 _ _)) (iv_w (c := -2000000000) (d := 5) (srd_175_72_x hI (Int32.toNatClampNeg a1)) (by decide +kernel)) ⟩⟩, fun g5183 => (iv_no (iv_eql (Decidable.not_not.mp g5183) ivk_1 ivk_0) (by decide +kernel)).elim⟩) (fun g5184 => hx_i ⟨fun g5185 => (iv_no (iv_nel g5185 ivk_0 ivk_0) (by decide +kernel)).elim, fun g5186 => hQ _ _ hI (sf_E0 _ _) (iv_w (c := -2000000000) (d := 5) ivk_m2000000000 (by decide +kernel)) ⟩))⟩⟩) (fun g5187 => hx_i ⟨Or.inl rfl, hx_i ⟨fun g5188 => hQ _ _ hI (sf_E0 _ _) (iv_w (c := -2000000000) (d := 5) ivk_m2000000000 (by decide +kernel)) , fun g5189 => (iv_no (iv_nel g5189 ivk_0 ivk_0) (by decide +kernel)).elim⟩⟩)))
set_option maxRecDepth 10000 in
theorem sf3_18 {E : mx_Ev} {d : Nat} {Q : Option mx_V → mx_H → Prop} {h0 : mx_H} (hQ : ∀ h', sf_I h' → sf_E 1245152626953534697416156959559626211690225536774176768 h0 h' → Q none h') : ∀ (n : Nat) {a1 : Nat} {a2 : Int32} {h : mx_H}, (2147483647 - a2.toInt).toNat < n → sf_iv 0 4 a2 → sf_I h → sf_E 1245152626953534697416156959559626211690225536774176768 h0 h → mx_T E (mx_fn true) (d + 1) 0 0 3 18 [(0, .inr (.inl 71)), (1, .inr (.inr (a1, 30))), (2, .inl (.int a2))] [] h Q
  | 0, _, _, _, hm, _, _, _ => absurd hm (Nat.not_lt_zero _)
  | n + 1, a1, a2, h, hm, pa2, hI, hE => sg3_18 ⟨fun g5200 => hQ _ hI hE , fun g5201 => ⟨(iv_in (iv_w (c := 0) (d := 3) (iv_ltl (Int32.not_le.mp g5201) pa2 ivk_4) (by decide +kernel)) (by decide +kernel)), ⟨fun g5202 => ⟨(iv_in (iv_w (c := 0) (d := 3) (iv_ltl (Int32.not_le.mp g5201) pa2 ivk_4) (by decide +kernel)) (by decide +kernel)), sf3_18 hQ  n (iv_up hm (iv_w (c := 0) (d := 3) (iv_ltl (Int32.not_le.mp g5201) pa2 ivk_4) (by decide +kernel)) (by decide +kernel))  (iv_w (c := 0) (d := 4) (iv_add (lo := 1) (hi := 4) (iv_w (c := 0) (d := 3) (iv_ltl (Int32.not_le.mp g5201) pa2 ivk_4) (by decide +kernel)) ivk_1 (by decide +kernel)) (by decide +kernel)) (sf_uI (r := 176) hI rfl ivk_m1 (by decide +kernel)) (sf_Eu (r := 176) rfl (by decide +kernel) hE)⟩, fun g5203 => ⟨(iv_in (iv_w (c := 0) (d := 3) (iv_ltl (Int32.not_le.mp g5201) pa2 ivk_4) (by decide +kernel)) (by decide +kernel)), ⟨(iv_in (iv_w (c := 0) (d := 3) (iv_ltl (Int32.not_le.mp g5201) pa2 ivk_4) (by decide +kernel)) (by decide +kernel)), sf3_18 hQ  n (iv_up hm (iv_w (c := 0) (d := 3) (iv_ltl (Int32.not_le.mp g5201) pa2 ivk_4) (by decide +kernel)) (by decide +kernel))  (iv_w (c := 0) (d := 4) (iv_add (lo := 1) (hi := 4) (iv_w (c := 0) (d := 3) (iv_ltl (Int32.not_le.mp g5201) pa2 ivk_4) (by decide +kernel)) ivk_1 (by decide +kernel)) (by decide +kernel)) (sf_uI (r := 176) hI rfl (srd_175_72_x hI (Int32.toNatClampNeg a2)) (by decide +kernel)) (sf_Eu (r := 176) rfl (by decide +kernel) hE)⟩⟩⟩⟩⟩
set_option maxRecDepth 10000 in
theorem sf3 {E : mx_Ev} {d : Nat} {h : mx_H} {Q : Option mx_V → mx_H → Prop} {a1 : Nat}  (hI : sf_I h) (hQ : ∀ h', sf_I h' → sf_E 1245152626953534697416156959559626211690225536774176768 h h' → Q none h') : mx_C E (mx_fn true) (d + 1) 3 [.inr (.inl 71), .inr (.inr (a1, 30))] h Q :=
  sg3_0 (sf_fill (a := .inl 75) (m := 383123885216472214589586756787577295904684780545900544) (r := 178) rfl (by decide +kernel) (fun _ => rfl) ivk_0 (by decide +kernel) (by decide +kernel) hI (fun h5204 I5205 E5206 => hx_n (sf_fill (a := .inl 76) (m := 766247770432944429179173513575154591809369561091801088) (r := 179) rfl (by decide +kernel) (fun _ => rfl) ivk_0 (by decide +kernel) (by decide +kernel) I5205 (fun h5207 I5208 E5209 => hx_n (sf3_18 hQ  _ (Nat.lt_succ_self _)  (iv_w (c := 0) (d := 4) ivk_0 (by decide +kernel)) I5208 (sf_Et (by decide +kernel) (sf_Et (by decide +kernel) (sf_E0 _ _) E5206) E5209))))))
set_option maxRecDepth 10000 in
theorem sf4 {E : mx_Ev} {d : Nat} {h : mx_H} {Q : Option mx_V → mx_H → Prop} {a1 : Nat} {a2 : Int32} {a3 : Int32} (pa2 : sf_iv 0 5 a2) (pa3 : sf_iv (-99) 99 a3) (hI : sf_I h) (hQ : ∀ h', sf_I h' → sf_E 766247770432944429179173513575154591809369561091801088 h h' → Q none h') : mx_C E (mx_fn true) d 4 [.inr (.inl 71), .inr (.inr (a1, 30)), .inl (.int a2), .inl (.int a3)] h Q :=
  sg4_0 ⟨fun g5214 => hQ _ hI (sf_E0 _ _) , fun g5215 => ⟨(show vp_in _ 6 from (iv_in pa2 (by decide +kernel))), ⟨fun g5216 => hQ _ hI (sf_E0 _ _) , fun g5217 => ⟨(iv_in pa2 (by decide +kernel)), ⟨(iv_in pa2 (by decide +kernel)), hQ _ (sf_uI (r := 179) hI rfl (iv_rng _) (by decide +kernel)) (sf_Eu (r := 179) rfl (by decide +kernel) (sf_E0 _ _)) ⟩⟩⟩⟩⟩
set_option maxRecDepth 10000 in
theorem sf6_17 {E : mx_Ev} {d : Nat} {Q : Option mx_V → mx_H → Prop} {h0 : mx_H} (hQ : ∀ h', sf_I h' → sf_E 766247770432944429179173513575154591809369561091801088 h0 h' → Q none h') : ∀ (n : Nat) {a1 : Nat} {a2 : Int32} {a3 : Int32} {a4 : Int32} {h : mx_H}, (2147483647 - a4.toInt).toNat < n → sf_iv 0 5 a2 → sf_iv (-2147483648) 2147483647 a3 → sf_iv 0 6 a4 → sf_I h → sf_E 766247770432944429179173513575154591809369561091801088 h0 h → mx_T E (mx_fn true) (d + 1) 0 0 6 17 [(0, .inr (.inl 71)), (1, .inr (.inr (a1, 30))), (2, .inl (.int a2)), (3, .inl (.int a3)), (4, .inl (.int a4))] [] h Q
  | 0, _, _, _, _, _, hm, _, _, _, _, _ => absurd hm (Nat.not_lt_zero _)
  | n + 1, a1, a2, a3, a4, h, hm, pa2, pa3, pa4, hI, hE => sg6_17 ⟨fun g5225 => ⟨(iv_in pa2 (by decide +kernel)), ⟨(show vp_in _ 6 from (iv_in pa2 (by decide +kernel))), ⟨(iv_ne0 (iv_max (lo := 1) (hi := 2147483647) ivk_1 (srd_412_s_31_x hI (Int32.toNatClampNeg a2)) (by decide +kernel)) (by decide +kernel)), ⟨(by decide +kernel), ⟨(iv_in pa2 (by decide +kernel)), ⟨(iv_in pa2 (by decide +kernel)), ⟨(iv_in pa2 (by decide +kernel)), ⟨(by decide +kernel), ⟨(iv_in pa2 (by decide +kernel)), hQ _ (sf_uI (r := 179) (sf_uI (r := 179) hI rfl (iv_rng _) (by decide +kernel)) rfl (iv_rng _) (by decide +kernel)) (sf_Eu (r := 179) rfl (by decide +kernel) (sf_Eu (r := 179) rfl (by decide +kernel) hE)) ⟩⟩⟩⟩⟩⟩⟩⟩⟩, fun g5226 => (sf27 pa2 (iv_w (c := 0) (d := 5) (iv_ltl (Int32.not_le.mp g5226) pa4 (srd_400_s_30_0 hI)) (by decide +kernel)) hI (fun x5230 h5227 I5228 E5229 X5231  => hx_i ⟨(iv_in pa2 (by decide +kernel)), ⟨(iv_in (iv_w (c := 0) (d := 5) (iv_ltl (Int32.not_le.mp g5226) pa4 (srd_400_s_30_0 hI)) (by decide +kernel)) (by decide +kernel)), sf6_17 hQ  n (iv_up hm (iv_w (c := 0) (d := 5) (iv_ltl (Int32.not_le.mp g5226) pa4 (srd_400_s_30_0 hI)) (by decide +kernel)) (by decide +kernel))  pa2 (iv_rng _) (iv_w (c := 0) (d := 6) (iv_add (lo := 1) (hi := 6) (iv_w (c := 0) (d := 5) (iv_ltl (Int32.not_le.mp g5226) pa4 (srd_400_s_30_0 hI)) (by decide +kernel)) ivk_1 (by decide +kernel)) (by decide +kernel)) I5228 (sf_Et (by decide +kernel) hE E5229)⟩⟩))⟩
set_option maxRecDepth 10000 in
theorem sf6 {E : mx_Ev} {d : Nat} {h : mx_H} {Q : Option mx_V → mx_H → Prop} {a1 : Nat} {a2 : Int32} (pa2 : sf_iv 0 5 a2) (hI : sf_I h) (hQ : ∀ h', sf_I h' → sf_E 766247770432944429179173513575154591809369561091801088 h h' → Q none h') : mx_C E (mx_fn true) (d + 1) 6 [.inr (.inl 71), .inr (.inr (a1, 30)), .inl (.int a2)] h Q :=
  sg6_0 ⟨(show vp_in _ 6 from (iv_in pa2 (by decide +kernel))), ⟨(iv_in pa2 (by decide +kernel)), sf6_17 hQ  _ (Nat.lt_succ_self _)  pa2 (iv_rng _) (iv_w (c := 0) (d := 6) ivk_0 (by decide +kernel)) hI (sf_E0 _ _)⟩⟩
set_option maxRecDepth 10000 in
theorem sf5_164 {E : mx_Ev} {d : Nat} {Q : Option mx_V → mx_H → Prop} {h0 : mx_H} (hQ : ∀ x h', sf_I h' → sf_E 1341027134362441928850318684585814377779654711593402368 h0 h' → sf_iv 0 2147483647 x → Q (some (.inl (.int x))) h') {n11 : Nat} (hO11 : ∀ {a1 : Nat} {a2 : Int32} {a3 : Int32} {a4 : Int32} {a5 : Int32} {h : mx_H}, (2147483647 - a5.toInt).toNat < n11 → sf_iv 1 200 a2 → sf_iv 0 6 a3 → sf_iv 0 2147483647 a4 → sf_iv 0 200 a5 → sf_I h → sf_E 1341027134362441928850318684585814377779654711593402368 h0 h → mx_T E (mx_fn true) (d + 2) 0 0 5 11 [(0, .inr (.inl 71)), (1, .inr (.inr (a1, 30))), (2, .inl (.int a2)), (3, .inl (.int a3)), (4, .inl (.int a4)), (5, .inl (.int a5))] [] h Q) : ∀ (n : Nat) {a1 : Nat} {a2 : Int32} {a3 : Int32} {a4 : Int32} {a5 : Int32} {a6 : Int32} {h : mx_H}, (2147483647 - a6.toInt).toNat < n → (2147483647 - a5.toInt).toNat < n11 + 1 → sf_iv 1 200 a2 → sf_iv 0 6 a3 → sf_iv 0 2147483647 a4 → sf_iv 0 199 a5 → sf_iv 0 4 a6 → sf_I h → sf_E 1341027134362441928850318684585814377779654711593402368 h0 h → mx_T E (mx_fn true) (d + 2) 0 0 5 164 [(0, .inr (.inl 71)), (1, .inr (.inr (a1, 30))), (2, .inl (.int a2)), (3, .inl (.int a3)), (4, .inl (.int a4)), (5, .inl (.int a5)), (6, .inl (.int a6))] [] h Q
  | 0, _, _, _, _, _, _, _, hm, _, _, _, _, _, _, _, _ => absurd hm (Nat.not_lt_zero _)
  | n + 1, a1, a2, a3, a4, a5, a6, h, hm, hm11, pa2, pa3, pa4, pa5, pa6, hI, hE => sg5_164 ⟨fun g5256 => hO11 (iv_up hm11 pa5 (by decide +kernel))  pa2 pa3 pa4 (iv_w (c := 0) (d := 200) (iv_add (lo := 1) (hi := 200) pa5 ivk_1 (by decide +kernel)) (by decide +kernel)) hI hE, fun g5257 => ⟨(iv_in (iv_w (c := 0) (d := 3) (iv_ltl (Int32.not_le.mp g5257) pa6 ivk_4) (by decide +kernel)) (by decide +kernel)), ⟨fun g5258 => sf5_164 hQ hO11 n (iv_up hm (iv_w (c := 0) (d := 3) (iv_ltl (Int32.not_le.mp g5257) pa6 ivk_4) (by decide +kernel)) (by decide +kernel)) hm11 pa2 pa3 pa4 pa5 (iv_w (c := 0) (d := 4) (iv_add (lo := 1) (hi := 4) (iv_w (c := 0) (d := 3) (iv_ltl (Int32.not_le.mp g5257) pa6 ivk_4) (by decide +kernel)) ivk_1 (by decide +kernel)) (by decide +kernel)) hI hE, fun g5259 => ⟨(iv_in (iv_w (c := 0) (d := 3) (iv_ltl (Int32.not_le.mp g5257) pa6 ivk_4) (by decide +kernel)) (by decide +kernel)), ⟨(iv_in (iv_w (c := 0) (d := 5) (iv_ler (Int32.not_lt.mp g5259) ivk_0 (srd_176_73_x hI (Int32.toNatClampNeg a6))) (by decide +kernel)) (by decide +kernel)), ⟨(iv_in (iv_add (lo := 0) (hi := 799) (iv_mul (lo := 0) (hi := 600) (iv_w (c := 0) (d := 200) ivk_200 (by decide +kernel)) (iv_w (c := 0) (d := 3) (iv_ltl (Int32.not_le.mp g5257) pa6 ivk_4) (by decide +kernel)) (by decide +kernel)) pa5 (by decide +kernel)) (by decide +kernel)), sf5_164 hQ hO11 n (iv_up hm (iv_w (c := 0) (d := 3) (iv_ltl (Int32.not_le.mp g5257) pa6 ivk_4) (by decide +kernel)) (by decide +kernel)) hm11 pa2 pa3 pa4 pa5 (iv_w (c := 0) (d := 4) (iv_add (lo := 1) (hi := 4) (iv_w (c := 0) (d := 3) (iv_ltl (Int32.not_le.mp g5257) pa6 ivk_4) (by decide +kernel)) ivk_1 (by decide +kernel)) (by decide +kernel)) (sf_uI (r := 177) hI rfl (srd_178_75_x hI (Int32.toNatClampNeg (h.2.1 (.inl 73) (Int32.toNatClampNeg a6)))) (by decide +kernel)) (sf_Eu (r := 177) rfl (by decide +kernel) hE)⟩⟩⟩⟩⟩⟩
set_option maxRecDepth 10000 in
theorem sf5_109 {E : mx_Ev} {d : Nat} {Q : Option mx_V → mx_H → Prop} {h0 : mx_H} (hQ : ∀ x h', sf_I h' → sf_E 1341027134362441928850318684585814377779654711593402368 h0 h' → sf_iv 0 2147483647 x → Q (some (.inl (.int x))) h') {n11 : Nat} (hO11 : ∀ {a1 : Nat} {a2 : Int32} {a3 : Int32} {a4 : Int32} {a5 : Int32} {h : mx_H}, (2147483647 - a5.toInt).toNat < n11 → sf_iv 1 200 a2 → sf_iv 0 6 a3 → sf_iv 0 2147483647 a4 → sf_iv 0 200 a5 → sf_I h → sf_E 1341027134362441928850318684585814377779654711593402368 h0 h → mx_T E (mx_fn true) (d + 2) 0 0 5 11 [(0, .inr (.inl 71)), (1, .inr (.inr (a1, 30))), (2, .inl (.int a2)), (3, .inl (.int a3)), (4, .inl (.int a4)), (5, .inl (.int a5))] [] h Q) : ∀ (n : Nat) {a1 : Nat} {a2 : Int32} {a3 : Int32} {a4 : Int32} {a5 : Int32} {a6 : Int32} {h : mx_H}, (2147483647 - a6.toInt).toNat < n → (2147483647 - a5.toInt).toNat < n11 + 1 → sf_iv 1 200 a2 → sf_iv 0 6 a3 → sf_iv 0 2147483647 a4 → sf_iv 0 199 a5 → sf_iv 0 6 a6 → sf_I h → sf_E 1341027134362441928850318684585814377779654711593402368 h0 h → mx_T E (mx_fn true) (d + 2) 0 0 5 109 [(0, .inr (.inl 71)), (1, .inr (.inr (a1, 30))), (2, .inl (.int a2)), (3, .inl (.int a3)), (4, .inl (.int a4)), (5, .inl (.int a5)), (6, .inl (.int a6))] [] h Q
  | 0, _, _, _, _, _, _, _, hm, _, _, _, _, _, _, _, _ => absurd hm (Nat.not_lt_zero _)
  | n + 1, a1, a2, a3, a4, a5, a6, h, hm, hm11, pa2, pa3, pa4, pa5, pa6, hI, hE => sg5_109 ⟨fun g5260 => sf5_164 hQ hO11 _ (Nat.lt_succ_self _) hm11 pa2 pa3 pa4 pa5 (iv_w (c := 0) (d := 4) ivk_0 (by decide +kernel)) hI hE, fun g5261 => ⟨(iv_in (iv_w (c := 0) (d := 5) (iv_ltl (Int32.not_le.mp g5261) pa6 (srd_400_s_30_0 hI)) (by decide +kernel)) (by decide +kernel)), ⟨(iv_in (iv_w (c := 0) (d := 5) (iv_ltl (Int32.not_le.mp g5261) pa6 (srd_400_s_30_0 hI)) (by decide +kernel)) (by decide +kernel)), ⟨(by decide +kernel), ⟨(iv_in (iv_w (c := 0) (d := 5) (iv_ltl (Int32.not_le.mp g5261) pa6 (srd_400_s_30_0 hI)) (by decide +kernel)) (by decide +kernel)), ⟨(iv_in (iv_w (c := 0) (d := 5) (iv_ltl (Int32.not_le.mp g5261) pa6 (srd_400_s_30_0 hI)) (by decide +kernel)) (by decide +kernel)), sf5_109 hQ hO11 n (iv_up hm (iv_w (c := 0) (d := 5) (iv_ltl (Int32.not_le.mp g5261) pa6 (srd_400_s_30_0 hI)) (by decide +kernel)) (by decide +kernel)) hm11 pa2 pa3 (iv_max (lo := 0) (hi := 2147483647) pa4 (iv_rng _) (by decide +kernel)) pa5 (iv_w (c := 0) (d := 6) (iv_add (lo := 1) (hi := 6) (iv_w (c := 0) (d := 5) (iv_ltl (Int32.not_le.mp g5261) pa6 (srd_400_s_30_0 hI)) (by decide +kernel)) ivk_1 (by decide +kernel)) (by decide +kernel)) (sf_uI (r := 178) hI rfl (iv_rng _) (by decide +kernel)) (sf_Eu (r := 178) rfl (by decide +kernel) hE)⟩⟩⟩⟩⟩⟩
set_option maxRecDepth 10000 in
theorem sf5_74 {E : mx_Ev} {d : Nat} {Q : Option mx_V → mx_H → Prop} {h0 : mx_H} (hQ : ∀ x h', sf_I h' → sf_E 1341027134362441928850318684585814377779654711593402368 h0 h' → sf_iv 0 2147483647 x → Q (some (.inl (.int x))) h') {n11 : Nat} (hO11 : ∀ {a1 : Nat} {a2 : Int32} {a3 : Int32} {a4 : Int32} {a5 : Int32} {h : mx_H}, (2147483647 - a5.toInt).toNat < n11 → sf_iv 1 200 a2 → sf_iv 0 6 a3 → sf_iv 0 2147483647 a4 → sf_iv 0 200 a5 → sf_I h → sf_E 1341027134362441928850318684585814377779654711593402368 h0 h → mx_T E (mx_fn true) (d + 2) 0 0 5 11 [(0, .inr (.inl 71)), (1, .inr (.inr (a1, 30))), (2, .inl (.int a2)), (3, .inl (.int a3)), (4, .inl (.int a4)), (5, .inl (.int a5))] [] h Q) : ∀ (n : Nat) {a1 : Nat} {a2 : Int32} {a3 : Int32} {a4 : Int32} {a5 : Int32} {a6 : Int32} {h : mx_H}, (2147483647 - a6.toInt).toNat < n → (2147483647 - a5.toInt).toNat < n11 + 1 → sf_iv 1 200 a2 → sf_iv 0 6 a3 → sf_iv 0 2147483647 a4 → sf_iv 0 199 a5 → sf_iv 0 6 a6 → sf_I h → sf_E 1341027134362441928850318684585814377779654711593402368 h0 h → mx_T E (mx_fn true) (d + 2) 0 0 5 74 [(0, .inr (.inl 71)), (1, .inr (.inr (a1, 30))), (2, .inl (.int a2)), (3, .inl (.int a3)), (4, .inl (.int a4)), (5, .inl (.int a5)), (6, .inl (.int a6))] [] h Q
  | 0, _, _, _, _, _, _, _, hm, _, _, _, _, _, _, _, _ => absurd hm (Nat.not_lt_zero _)
  | n + 1, a1, a2, a3, a4, a5, a6, h, hm, hm11, pa2, pa3, pa4, pa5, pa6, hI, hE => sg5_74 ⟨fun g5262 => sf5_109 hQ hO11 _ (Nat.lt_succ_self _) hm11 pa2 pa3 pa4 pa5 (iv_w (c := 0) (d := 6) ivk_0 (by decide +kernel)) hI hE, fun g5263 => ⟨(show vp_in _ 6 from (iv_in (iv_w (c := 0) (d := 5) (iv_ltl (Int32.not_le.mp g5263) pa6 (srd_400_s_30_0 hI)) (by decide +kernel)) (by decide +kernel))), ⟨fun g5264 => sf5_74 hQ hO11 n (iv_up hm (iv_w (c := 0) (d := 5) (iv_ltl (Int32.not_le.mp g5263) pa6 (srd_400_s_30_0 hI)) (by decide +kernel)) (by decide +kernel)) hm11 pa2 pa3 pa4 pa5 (iv_w (c := 0) (d := 6) (iv_add (lo := 1) (hi := 6) (iv_w (c := 0) (d := 5) (iv_ltl (Int32.not_le.mp g5263) pa6 (srd_400_s_30_0 hI)) (by decide +kernel)) ivk_1 (by decide +kernel)) (by decide +kernel)) hI hE, fun g5265 => (sf6 (iv_w (c := 0) (d := 5) (iv_ltl (Int32.not_le.mp g5263) pa6 (srd_400_s_30_0 hI)) (by decide +kernel)) hI (fun h5266 I5267 E5268  => hx_n (sf5_74 hQ hO11 n (iv_up hm (iv_w (c := 0) (d := 5) (iv_ltl (Int32.not_le.mp g5263) pa6 (srd_400_s_30_0 hI)) (by decide +kernel)) (by decide +kernel)) hm11 pa2 pa3 pa4 pa5 (iv_w (c := 0) (d := 6) (iv_add (lo := 1) (hi := 6) (iv_w (c := 0) (d := 5) (iv_ltl (Int32.not_le.mp g5263) pa6 (srd_400_s_30_0 hI)) (by decide +kernel)) ivk_1 (by decide +kernel)) (by decide +kernel)) I5267 (sf_Et (by decide +kernel) hE E5268))))⟩⟩⟩
set_option maxRecDepth 10000 in
theorem sf5_28 {E : mx_Ev} {d : Nat} {Q : Option mx_V → mx_H → Prop} {h0 : mx_H} (hQ : ∀ x h', sf_I h' → sf_E 1341027134362441928850318684585814377779654711593402368 h0 h' → sf_iv 0 2147483647 x → Q (some (.inl (.int x))) h') {n11 : Nat} (hO11 : ∀ {a1 : Nat} {a2 : Int32} {a3 : Int32} {a4 : Int32} {a5 : Int32} {h : mx_H}, (2147483647 - a5.toInt).toNat < n11 → sf_iv 1 200 a2 → sf_iv 0 6 a3 → sf_iv 0 2147483647 a4 → sf_iv 0 200 a5 → sf_I h → sf_E 1341027134362441928850318684585814377779654711593402368 h0 h → mx_T E (mx_fn true) (d + 2) 0 0 5 11 [(0, .inr (.inl 71)), (1, .inr (.inr (a1, 30))), (2, .inl (.int a2)), (3, .inl (.int a3)), (4, .inl (.int a4)), (5, .inl (.int a5))] [] h Q) : ∀ (n : Nat) {a1 : Nat} {a2 : Int32} {a3 : Int32} {a4 : Int32} {a5 : Int32} {a6 : Int32} {h : mx_H}, (2147483647 - a6.toInt).toNat < n → (2147483647 - a5.toInt).toNat < n11 + 1 → sf_iv 1 200 a2 → sf_iv 0 6 a3 → sf_iv 0 2147483647 a4 → sf_iv 0 199 a5 → sf_iv 0 6 a6 → sf_I h → sf_E 1341027134362441928850318684585814377779654711593402368 h0 h → mx_T E (mx_fn true) (d + 2) 0 0 5 28 [(0, .inr (.inl 71)), (1, .inr (.inr (a1, 30))), (2, .inl (.int a2)), (3, .inl (.int a3)), (4, .inl (.int a4)), (5, .inl (.int a5)), (6, .inl (.int a6))] [] h Q
  | 0, _, _, _, _, _, _, _, hm, _, _, _, _, _, _, _, _ => absurd hm (Nat.not_lt_zero _)
  | n + 1, a1, a2, a3, a4, a5, a6, h, hm, hm11, pa2, pa3, pa4, pa5, pa6, hI, hE => sg5_28 ⟨fun g5269 => sf5_74 hQ hO11 _ (Nat.lt_succ_self _) hm11 pa2 pa3 pa4 pa5 (iv_w (c := 0) (d := 6) ivk_0 (by decide +kernel)) hI hE, fun g5270 => ⟨(iv_in (iv_w (c := 0) (d := 5) (iv_ltl (Int32.not_le.mp g5270) pa6 pa3) (by decide +kernel)) (by decide +kernel)), ⟨fun g5271 => sf5_28 hQ hO11 n (iv_up hm (iv_w (c := 0) (d := 5) (iv_ltl (Int32.not_le.mp g5270) pa6 pa3) (by decide +kernel)) (by decide +kernel)) hm11 pa2 (iv_w (c := 0) (d := 6) (iv_w (c := 1) (d := 6) (iv_ltr (Int32.not_le.mp g5270) pa6 pa3) (by decide +kernel)) (by decide +kernel)) pa4 pa5 (iv_w (c := 0) (d := 6) (iv_add (lo := 1) (hi := 6) (iv_w (c := 0) (d := 5) (iv_ltl (Int32.not_le.mp g5270) pa6 pa3) (by decide +kernel)) ivk_1 (by decide +kernel)) (by decide +kernel)) hI hE, fun g5272 => ⟨(iv_in (iv_w (c := 0) (d := 5) (iv_ltl (Int32.not_le.mp g5270) pa6 pa3) (by decide +kernel)) (by decide +kernel)), ⟨(iv_in (iv_w (c := 0) (d := 5) (iv_ltl (Int32.not_le.mp g5270) pa6 pa3) (by decide +kernel)) (by decide +kernel)), (sf4 (srd_180_77_x hI (Int32.toNatClampNeg a6)) (srd_181_78_x hI (Int32.toNatClampNeg a6)) hI (fun h5273 I5274 E5275  => hx_n (sf5_28 hQ hO11 n (iv_up hm (iv_w (c := 0) (d := 5) (iv_ltl (Int32.not_le.mp g5270) pa6 pa3) (by decide +kernel)) (by decide +kernel)) hm11 pa2 (iv_w (c := 0) (d := 6) (iv_w (c := 1) (d := 6) (iv_ltr (Int32.not_le.mp g5270) pa6 pa3) (by decide +kernel)) (by decide +kernel)) pa4 (iv_w (c := 0) (d := 199) (iv_w (c := 0) (d := 99) (iv_eql (Decidable.not_not.mp g5272).symm pa5 (srd_182_79_x hI (Int32.toNatClampNeg a6))) (by decide +kernel)) (by decide +kernel)) (iv_w (c := 0) (d := 6) (iv_add (lo := 1) (hi := 6) (iv_w (c := 0) (d := 5) (iv_ltl (Int32.not_le.mp g5270) pa6 pa3) (by decide +kernel)) ivk_1 (by decide +kernel)) (by decide +kernel)) I5274 (sf_Et (by decide +kernel) hE E5275))))⟩⟩⟩⟩⟩
set_option maxRecDepth 10000 in
theorem sf5_11 {E : mx_Ev} {d : Nat} {Q : Option mx_V → mx_H → Prop} {h0 : mx_H} (hQ : ∀ x h', sf_I h' → sf_E 1341027134362441928850318684585814377779654711593402368 h0 h' → sf_iv 0 2147483647 x → Q (some (.inl (.int x))) h') : ∀ (n : Nat) {a1 : Nat} {a2 : Int32} {a3 : Int32} {a4 : Int32} {a5 : Int32} {h : mx_H}, (2147483647 - a5.toInt).toNat < n → sf_iv 1 200 a2 → sf_iv 0 6 a3 → sf_iv 0 2147483647 a4 → sf_iv 0 200 a5 → sf_I h → sf_E 1341027134362441928850318684585814377779654711593402368 h0 h → mx_T E (mx_fn true) (d + 2) 0 0 5 11 [(0, .inr (.inl 71)), (1, .inr (.inr (a1, 30))), (2, .inl (.int a2)), (3, .inl (.int a3)), (4, .inl (.int a4)), (5, .inl (.int a5))] [] h Q
  | 0, _, _, _, _, _, _, hm, _, _, _, _, _, _ => absurd hm (Nat.not_lt_zero _)
  | n + 1, a1, a2, a3, a4, a5, h, hm, pa2, pa3, pa4, pa5, hI, hE => sg5_11 ⟨fun g5276 => hQ _ _ hI hE pa4 , fun g5277 => ⟨fun g5278 => (iv_no (iv_lel g5278 ivk_200 (iv_w (c := 0) (d := 199) (iv_ltl (Int32.not_le.mp g5277) pa5 pa2) (by decide +kernel))) (by decide +kernel)).elim, fun g5279 => sf5_28 hQ (sf5_11 hQ  n) _ (Nat.lt_succ_self _) hm pa2 pa3 pa4 (iv_w (c := 0) (d := 199) (iv_ltl (Int32.not_le.mp g5277) pa5 pa2) (by decide +kernel)) (iv_w (c := 0) (d := 6) ivk_0 (by decide +kernel)) hI hE⟩⟩
set_option maxRecDepth 10000 in
theorem sf5 {E : mx_Ev} {d : Nat} {h : mx_H} {Q : Option mx_V → mx_H → Prop} {a1 : Nat} {a2 : Int32} {a3 : Int32} (pa2 : sf_iv 1 200 a2) (pa3 : sf_iv 0 6 a3) (hI : sf_I h) (hQ : ∀ x h', sf_I h' → sf_E 1341027134362441928850318684585814377779654711593402368 h h' → sf_iv 0 2147483647 x → Q (some (.inl (.int x))) h') : mx_C E (mx_fn true) (d + 2) 5 [.inr (.inl 71), .inr (.inr (a1, 30)), .inl (.int a2), .inl (.int a3)] h Q :=
  sg5_0 (sf5_11 hQ  _ (Nat.lt_succ_self _)  pa2 pa3 (iv_w (c := 0) (d := 2147483647) ivk_0 (by decide +kernel)) (iv_w (c := 0) (d := 200) ivk_0 (by decide +kernel)) (sf_uI (r := 166) hI rfl pa2 (by decide +kernel)) (sf_Eu (r := 166) rfl (by decide +kernel) (sf_E0 _ _)))
set_option maxRecDepth 10000 in
theorem sf131 {E : mx_Ev} {d : Nat} {h : mx_H} {Q : Option mx_V → mx_H → Prop} {a1 : Int32} {a2 : Int32} {a3 : Int32} {a4 : Int32} (pa1 : sf_iv (-2147483648) 2147483647 a1) (pa2 : sf_iv (-2147483648) 2147483647 a2) (pa3 : sf_iv (-2147483648) 2147483647 a3) (pa4 : sf_iv (-2147483648) 2147483647 a4) (hI : sf_I h) (hQ : ∀ x h', sf_I h' → sf_E 158656014759537750657049329847037052570691453617220321851828541525213931981144845505800022648600322283962028545003485470392320 h h' → sf_iv (-4) 2147483647 x → Q (some (.inl (.int x))) h') : mx_C E (mx_fn true) (d + 4) 131 [.inr (.inl 0), .inl (.int a1), .inl (.int a2), .inl (.int a3), .inl (.int a4)] h Q :=
  sg131_0 (sg166_0 (sp_wi (fun g5330 => hx_i ⟨fun g5331 => (iv_no (iv_eql g5331 ivk_1 ivk_0) (by decide +kernel)).elim, fun g5332 => ⟨(iv_in (iv_w (c := 0) (d := 11) (iv_lel g5330.2 (iv_w (c := 0) (d := 2147483647) (iv_ler g5330.1 ivk_0 pa1) (by decide +kernel)) (iv_sub (lo := -1) (hi := 11) (srd_2_0_2 hI) ivk_1 (by decide +kernel))) (by decide +kernel)) (by decide +kernel)), fun j5333 q5334 => hx_s (sg164_0 (sp_wi (fun g5337 => hx_i ⟨fun g5338 => (iv_no (iv_eql g5338 ivk_1 ivk_0) (by decide +kernel)).elim, fun g5339 => ⟨Or.inr rfl, hx_i ⟨fun g5340 => (iv_no (iv_eql g5340 ivk_1 ivk_0) (by decide +kernel)).elim, fun g5341 => (sg159_0 (sp_wi (fun g5342 => hx_i ⟨Or.inr rfl, hx_i ⟨fun g5343 => (iv_no (iv_eql g5343 ivk_1 ivk_0) (by decide +kernel)).elim, fun g5344 => (sp_wi (fun g5345 => hx_i ⟨fun g5346 => ⟨(show vp_in _ 6 from (iv_in (iv_w (c := 0) (d := 5) (iv_lel g5337.2 (iv_w (c := 0) (d := 2147483647) (iv_ler g5337.1 ivk_0 pa2) (by decide +kernel)) (iv_sub (lo := -1) (hi := 5) (srd_379_s_0_0 hI) ivk_1 (by decide +kernel))) (by decide +kernel)) (by decide +kernel))), ⟨fun g5347 => (sf22  hI (fun h5348 I5349 E5350  => hx_n (sf3  I5349 (fun h5351 I5352 E5353  => hx_n (sf4 (iv_w (c := 0) (d := 5) (iv_lel g5337.2 (iv_w (c := 0) (d := 2147483647) (iv_ler g5337.1 ivk_0 pa2) (by decide +kernel)) (iv_sub (lo := -1) (hi := 5) (srd_379_s_0_0 hI) ivk_1 (by decide +kernel))) (by decide +kernel)) (iv_w (c := -99) (d := 99) (iv_lel g5342.2 (iv_w (c := -99) (d := 2147483647) (iv_ler g5342.1 ivk_m99 pa3) (by decide +kernel)) ivk_99) (by decide +kernel)) I5352 (fun h5354 I5355 E5356  => hx_n (sf5 (iv_w (c := 1) (d := 200) (iv_lel g5345.2 (iv_w (c := 1) (d := 2147483647) (iv_ler g5345.1 ivk_1 pa4) (by decide +kernel)) ivk_200) (by decide +kernel)) (iv_w (c := 0) (d := 6) ivk_0 (by decide +kernel)) I5355 (fun x5360 h5357 I5358 E5359 X5361  => hx_i (hQ _ _ I5358 (sf_Et (by decide +kernel) (sf_Et (by decide +kernel) (sf_Et (by decide +kernel) (sf_Et (by decide +kernel) (sf_E0 _ _) E5350) E5353) E5356) E5359) (iv_w (c := -4) (d := 2147483647) X5361 (by decide +kernel)) ))))))))), fun g5362 => hQ _ _ hI (sf_E0 _ _) (iv_w (c := -4) (d := 2147483647) ivk_m4 (by decide +kernel)) ⟩⟩, fun g5363 => (iv_no (iv_eql (Decidable.not_not.mp g5363) ivk_1 ivk_0) (by decide +kernel)).elim⟩) (fun g5364 => hx_i ⟨fun g5365 => (iv_no (iv_nel g5365 ivk_0 ivk_0) (by decide +kernel)).elim, fun g5366 => hQ _ _ hI (sf_E0 _ _) (iv_w (c := -4) (d := 2147483647) ivk_m1 (by decide +kernel)) ⟩))⟩⟩) (fun g5367 => hx_i ⟨Or.inl rfl, hx_i ⟨fun g5368 => hQ _ _ hI (sf_E0 _ _) (iv_w (c := -4) (d := 2147483647) ivk_m1 (by decide +kernel)) , fun g5369 => (iv_no (iv_nel g5369 ivk_0 ivk_0) (by decide +kernel)).elim⟩⟩)))⟩⟩⟩) (fun g5370 => hx_i ⟨fun g5371 => ⟨Or.inl rfl, hx_i ⟨fun g5372 => hQ _ _ hI (sf_E0 _ _) (iv_w (c := -4) (d := 2147483647) ivk_m1 (by decide +kernel)) , fun g5373 => (iv_no (iv_nel g5373 ivk_0 ivk_0) (by decide +kernel)).elim⟩⟩, fun g5374 => (iv_no (iv_nel g5374 ivk_0 ivk_0) (by decide +kernel)).elim⟩))), fun q5334 => hx_0 (sg164_null ⟨Or.inl rfl, hx_i ⟨fun g5335 => hQ _ _ hI (sf_E0 _ _) (iv_w (c := -4) (d := 2147483647) ivk_m1 (by decide +kernel)) , fun g5336 => (iv_no (iv_nel g5336 ivk_0 ivk_0) (by decide +kernel)).elim⟩⟩), sf_rt hI rfl⟩⟩) (fun g5375 => hx_i ⟨fun g5376 => hx_0 (sg164_null ⟨Or.inl rfl, hx_i ⟨fun g5377 => hQ _ _ hI (sf_E0 _ _) (iv_w (c := -4) (d := 2147483647) ivk_m1 (by decide +kernel)) , fun g5378 => (iv_no (iv_nel g5378 ivk_0 ivk_0) (by decide +kernel)).elim⟩⟩), fun g5379 => (iv_no (iv_nel g5379 ivk_0 ivk_0) (by decide +kernel)).elim⟩)))
set_option maxRecDepth 10000 in
theorem sf2 {E : mx_Ev} {d : Nat} {h : mx_H} {Q : Option mx_V → mx_H → Prop} {a1 : Int32} {a2 : Int32} {a3 : Int32} (pa1 : sf_iv 0 5 a1) (pa2 : sf_iv (-99) 99 a2) (pa3 : sf_iv 0 99 a3) (hI : sf_I h) (hQ : ∀ h', sf_I h' → sf_E 10730461941414475697684910336589567232955429205133230080 h h' → Q none h') : mx_C E (mx_fn true) d 2 [.inr (.inl 71), .inl (.int a1), .inl (.int a2), .inl (.int a3)] h Q :=
  sg2_0 ⟨fun g5382 => ⟨(iv_in (iv_w (c := 0) (d := 5) (iv_ltl g5382 (srd_171_71_7 hI) ivk_6) (by decide +kernel)) (by decide +kernel)), ⟨(iv_in (iv_o (by decide +kernel) (iv_w (c := 0) (d := 5) (iv_ltl g5382 (srd_171_71_7 hI) ivk_6) (by decide +kernel))) (by decide +kernel)), ⟨(iv_in (iv_o (by decide +kernel) (iv_o (by decide +kernel) (iv_w (c := 0) (d := 5) (iv_ltl g5382 (srd_171_71_7 hI) ivk_6) (by decide +kernel)))) (by decide +kernel)), hQ _ (sf_uI (r := 171) (sf_uI (r := 182) (sf_uI (r := 181) (sf_uI (r := 180) hI rfl pa1 (by decide +kernel)) rfl pa2 (by decide +kernel)) rfl pa3 (by decide +kernel)) rfl (iv_add (lo := 1) (hi := 6) (iv_o (by decide +kernel) (iv_o (by decide +kernel) (iv_o (by decide +kernel) (iv_w (c := 0) (d := 5) (iv_ltl g5382 (srd_171_71_7 hI) ivk_6) (by decide +kernel))))) ivk_1 (by decide +kernel)) (by decide +kernel)) (sf_Eu (r := 171) rfl (by decide +kernel) (sf_Eu (r := 182) rfl (by decide +kernel) (sf_Eu (r := 181) rfl (by decide +kernel) (sf_Eu (r := 180) rfl (by decide +kernel) (sf_E0 _ _))))) ⟩⟩⟩, fun g5383 => hQ _ hI (sf_E0 _ _) ⟩
set_option maxRecDepth 10000 in
theorem sf132 {E : mx_Ev} {d : Nat} {h : mx_H} {Q : Option mx_V → mx_H → Prop} {a1 : Int32} {a2 : Int32} {a3 : Int32} (pa1 : sf_iv (-2147483648) 2147483647 a1) (pa2 : sf_iv (-2147483648) 2147483647 a2) (pa3 : sf_iv (-2147483648) 2147483647 a3) (hI : sf_I h) (hQ : ∀ x h', sf_I h' → sf_E 10730461941414475697684910336589567232955429205133230080 h h' → sf_iv (-3) 6 x → Q (some (.inl (.int x))) h') : mx_C E (mx_fn true) (d + 2) 132 [.inr (.inl 0), .inl (.int a1), .inl (.int a2), .inl (.int a3)] h Q :=
  sg132_0 (sp_wi (fun g5407 => hx_i ⟨fun g5408 => (iv_no (iv_eql g5408 ivk_1 ivk_0) (by decide +kernel)).elim, fun g5409 => (sg159_0 (sp_wi (fun g5410 => hx_i ⟨Or.inr rfl, hx_i ⟨fun g5411 => (iv_no (iv_eql g5411 ivk_1 ivk_0) (by decide +kernel)).elim, fun g5412 => (sp_wi (fun g5413 => hx_i ⟨fun g5414 => ⟨fun g5415 => (sf2 (iv_w (c := 0) (d := 5) (iv_lel g5407.2 (iv_w (c := 0) (d := 2147483647) (iv_ler g5407.1 ivk_0 pa1) (by decide +kernel)) ivk_5) (by decide +kernel)) (iv_w (c := -99) (d := 99) (iv_lel g5410.2 (iv_w (c := -99) (d := 2147483647) (iv_ler g5410.1 ivk_m99 pa2) (by decide +kernel)) ivk_99) (by decide +kernel)) (iv_w (c := 0) (d := 99) (iv_lel g5413.2 (iv_w (c := 0) (d := 2147483647) (iv_ler g5413.1 ivk_0 pa3) (by decide +kernel)) ivk_99) (by decide +kernel)) hI (fun h5416 I5417 E5418  => hx_n (hQ _ _ I5417 (sf_Et (by decide +kernel) (sf_E0 _ _) E5418) (iv_w (c := -3) (d := 6) (srd_171_71_7 I5417) (by decide +kernel)) ))), fun g5419 => hQ _ _ hI (sf_E0 _ _) (iv_w (c := -3) (d := 6) ivk_m3 (by decide +kernel)) ⟩, fun g5420 => (iv_no (iv_eql (Decidable.not_not.mp g5420) ivk_1 ivk_0) (by decide +kernel)).elim⟩) (fun g5421 => hx_i ⟨fun g5422 => (iv_no (iv_nel g5422 ivk_0 ivk_0) (by decide +kernel)).elim, fun g5423 => hQ _ _ hI (sf_E0 _ _) (iv_w (c := -3) (d := 6) ivk_m1 (by decide +kernel)) ⟩))⟩⟩) (fun g5424 => hx_i ⟨Or.inl rfl, hx_i ⟨fun g5425 => hQ _ _ hI (sf_E0 _ _) (iv_w (c := -3) (d := 6) ivk_m1 (by decide +kernel)) , fun g5426 => (iv_no (iv_nel g5426 ivk_0 ivk_0) (by decide +kernel)).elim⟩⟩)))⟩) (fun g5427 => hx_i ⟨fun g5428 => hQ _ _ hI (sf_E0 _ _) (iv_w (c := -3) (d := 6) ivk_m1 (by decide +kernel)) , fun g5429 => (iv_no (iv_nel g5429 ivk_0 ivk_0) (by decide +kernel)).elim⟩))
set_option maxRecDepth 10000 in
theorem sf133 {E : mx_Ev} {d : Nat} {h : mx_H} {Q : Option mx_V → mx_H → Prop} {a1 : Int32} {a2 : Int32} (pa1 : sf_iv (-2147483648) 2147483647 a1) (pa2 : sf_iv (-2147483648) 2147483647 a2) (hI : sf_I h) (hQ : ∀ x h', sf_I h' → sf_E 158656014759537750657049329847037052570691453617220321851828541525213931984138000859053711825081468821364976169258835318407168 h h' → sf_iv (-4) 2147483647 x → Q (some (.inl (.int x))) h') : mx_C E (mx_fn true) (d + 4) 133 [.inr (.inl 0), .inl (.int a1), .inl (.int a2)] h Q :=
  sg133_0 (sg166_0 (sp_wi (fun g5457 => hx_i ⟨fun g5458 => (iv_no (iv_eql g5458 ivk_1 ivk_0) (by decide +kernel)).elim, fun g5459 => ⟨(iv_in (iv_w (c := 0) (d := 11) (iv_lel g5457.2 (iv_w (c := 0) (d := 2147483647) (iv_ler g5457.1 ivk_0 pa1) (by decide +kernel)) (iv_sub (lo := -1) (hi := 11) (srd_2_0_2 hI) ivk_1 (by decide +kernel))) (by decide +kernel)) (by decide +kernel)), fun j5460 q5461 => hx_s (sp_wi (fun g5462 => hx_i ⟨fun g5463 => ⟨fun g5464 => (sf22  hI (fun h5465 I5466 E5467  => hx_n (sf3  I5466 (fun h5468 I5469 E5470  => hx_n (sf5 (iv_w (c := 1) (d := 200) (iv_lel g5462.2 (iv_w (c := 1) (d := 2147483647) (iv_ler g5462.1 ivk_1 pa2) (by decide +kernel)) ivk_200) (by decide +kernel)) (iv_w (c := 0) (d := 6) (iv_e (sf_fr (r := 171) E5470 rfl (by decide +kernel)) (iv_e (sf_fr (r := 171) E5467 rfl (by decide +kernel)) (iv_w (c := 1) (d := 6) (iv_nel g5464 (srd_171_71_7 hI) ivk_0) (by decide +kernel)))) (by decide +kernel)) I5469 (fun x5474 h5471 I5472 E5473 X5475  => hx_i (hQ _ _ (sf_uI (r := 171) I5472 rfl ivk_0 (by decide +kernel)) (sf_Eu (r := 171) rfl (by decide +kernel) (sf_Et (by decide +kernel) (sf_Et (by decide +kernel) (sf_Et (by decide +kernel) (sf_E0 _ _) E5467) E5470) E5473)) (iv_w (c := -4) (d := 2147483647) X5475 (by decide +kernel)) ))))))), fun g5476 => hQ _ _ hI (sf_E0 _ _) (iv_w (c := -4) (d := 2147483647) ivk_m4 (by decide +kernel)) ⟩, fun g5477 => (iv_no (iv_eql (Decidable.not_not.mp g5477) ivk_1 ivk_0) (by decide +kernel)).elim⟩) (fun g5478 => hx_i ⟨fun g5479 => (iv_no (iv_nel g5479 ivk_0 ivk_0) (by decide +kernel)).elim, fun g5480 => hQ _ _ hI (sf_E0 _ _) (iv_w (c := -4) (d := 2147483647) ivk_m1 (by decide +kernel)) ⟩)), fun q5461 => hx_0 (hQ _ _ hI (sf_E0 _ _) (iv_w (c := -4) (d := 2147483647) ivk_m1 (by decide +kernel)) ), sf_rt hI rfl⟩⟩) (fun g5481 => hx_i ⟨fun g5482 => hx_0 (hQ _ _ hI (sf_E0 _ _) (iv_w (c := -4) (d := 2147483647) ivk_m1 (by decide +kernel)) ), fun g5483 => (iv_no (iv_nel g5483 ivk_0 ivk_0) (by decide +kernel)).elim⟩)))
/-! ===== methods that end and keep their bounds: written by program, checked by Lean ===== -/
set_option maxRecDepth 10000 in
theorem sf8 {E : mx_Ev} {d : Nat} {h : mx_H} {Q : Option mx_V → mx_H → Prop} {a1 : Int32} {a2 : Int32} (pa1 : sf_iv 0 3 a1) (pa2 : sf_iv 1 200 a2) (hI : sf_I h) (hQ : ∀ x h', sf_I h' → sf_E 0 h h' → sf_iv (-2147483648) 2147483647 x → Q (some (.inl (.int x))) h') : mx_C E (mx_fn true) d 8 [.inr (.inl 71), .inl (.int a1), .inl (.int a2)] h Q :=
  sg8_0 ⟨(iv_in (iv_sub (lo := 0) (hi := 799) (iv_add (lo := 1) (hi := 800) (iv_mul (lo := 0) (hi := 600) (iv_w (c := 0) (d := 200) ivk_200 (by decide +kernel)) pa1 (by decide +kernel)) pa2 (by decide +kernel)) ivk_1 (by decide +kernel)) (by decide +kernel)), hQ _ _ hI (sf_E0 _ _) (srd_177_74_x hI (Int32.toNatClampNeg (((200 * a1) + a2) - 1))) ⟩
set_option maxRecDepth 10000 in
theorem sf134 {E : mx_Ev} {d : Nat} {h : mx_H} {Q : Option mx_V → mx_H → Prop} {a1 : Int32} {a2 : Int32} (pa1 : sf_iv (-2147483648) 2147483647 a1) (pa2 : sf_iv (-2147483648) 2147483647 a2) (hI : sf_I h) (hQ : ∀ x h', sf_I h' → sf_E 0 h h' → sf_iv (-2147483648) 2147483647 x → Q (some (.inl (.int x))) h') : mx_C E (mx_fn true) (d + 2) 134 [.inr (.inl 0), .inl (.int a1), .inl (.int a2)] h Q :=
  sg134_0 (sg160_0 (sp_wi (fun g5509 => hx_i ⟨Or.inr rfl, hx_i ⟨fun g5510 => (iv_no (iv_eql g5510 ivk_1 ivk_0) (by decide +kernel)).elim, fun g5511 => (sp_wi (fun g5512 => hx_i ⟨fun g5513 => (iv_no (iv_eql g5513 ivk_1 ivk_0) (by decide +kernel)).elim, fun g5514 => (sg7_0 ⟨fun g5515 => (iv_no (iv_lel g5515 (iv_w (c := 1) (d := 200) (iv_ler g5512.2 (iv_w (c := 1) (d := 2147483647) (iv_ler g5512.1 ivk_1 pa2) (by decide +kernel)) (srd_166_71_2 hI)) (by decide +kernel)) ivk_0) (by decide +kernel)).elim, fun g5516 => ⟨(iv_in (iv_w (c := 0) (d := 3) (iv_lel g5509.2 (iv_w (c := 0) (d := 2147483647) (iv_ler g5509.1 ivk_0 pa1) (by decide +kernel)) ivk_3) (by decide +kernel)) (by decide +kernel)), ⟨fun g5517 => ⟨Or.inl rfl, hx_i ⟨fun g5518 => (iv_no (iv_nel g5518 ivk_0 ivk_0) (by decide +kernel)).elim, fun g5519 => hQ _ _ hI (sf_E0 _ _) (iv_w (c := -2147483648) (d := 2147483647) ivk_m2000000000 (by decide +kernel)) ⟩⟩, fun g5520 => ⟨Or.inr rfl, hx_i ⟨fun g5521 => (sf8 (iv_w (c := 0) (d := 3) (iv_lel g5509.2 (iv_w (c := 0) (d := 2147483647) (iv_ler g5509.1 ivk_0 pa1) (by decide +kernel)) ivk_3) (by decide +kernel)) (iv_w (c := 1) (d := 200) (iv_lel g5512.2 (iv_w (c := 1) (d := 2147483647) (iv_ler g5512.1 ivk_1 pa2) (by decide +kernel)) (srd_166_71_2 hI)) (by decide +kernel)) hI (fun x5525 h5522 I5523 E5524 X5526  => hx_i (hQ _ _ I5523 (sf_Et (by decide +kernel) (sf_E0 _ _) E5524) X5526 ))), fun g5527 => (iv_no (iv_eql (Decidable.not_not.mp g5527) ivk_1 ivk_0) (by decide +kernel)).elim⟩⟩⟩⟩⟩)⟩) (fun g5528 => hx_i ⟨fun g5529 => hQ _ _ hI (sf_E0 _ _) (iv_w (c := -2147483648) (d := 2147483647) ivk_m2000000000 (by decide +kernel)) , fun g5530 => (iv_no (iv_nel g5530 ivk_0 ivk_0) (by decide +kernel)).elim⟩))⟩⟩) (fun g5531 => hx_i ⟨Or.inl rfl, hx_i ⟨fun g5532 => hQ _ _ hI (sf_E0 _ _) (iv_w (c := -2147483648) (d := 2147483647) ivk_m2000000000 (by decide +kernel)) , fun g5533 => (iv_no (iv_nel g5533 ivk_0 ivk_0) (by decide +kernel)).elim⟩⟩)))
set_option maxRecDepth 10000 in
theorem sf9_4 {E : mx_Ev} {d : Nat} {Q : Option mx_V → mx_H → Prop} {h0 : mx_H} (hQ : ∀ x h', sf_I h' → sf_E 0 h0 h' → sf_iv 0 2147483647 x → Q (some (.inl (.int x))) h') : ∀ (n : Nat) {a1 : Int32} {a2 : Int32} {a3 : Int32} {h : mx_H}, (2147483647 - a3.toInt).toNat < n → sf_iv 0 3 a1 → sf_iv 0 2147483647 a2 → sf_iv 1 255 a3 → sf_I h → sf_E 0 h0 h → mx_T E (mx_fn true) (d + 1) 0 0 9 4 [(0, .inr (.inl 71)), (1, .inl (.int a1)), (2, .inl (.int a2)), (3, .inl (.int a3))] [] h Q
  | 0, _, _, _, _, hm, _, _, _, _, _ => absurd hm (Nat.not_lt_zero _)
  | n + 1, a1, a2, a3, h, hm, pa1, pa2, pa3, hI, hE => sg9_4 ⟨fun g5541 => hQ _ _ hI hE pa2 , fun g5542 => (sf8 pa1 (iv_w (c := 1) (d := 200) (iv_lel (Int32.not_lt.mp g5542) pa3 (srd_166_71_2 hI)) (by decide +kernel)) hI (fun x5546 h5543 I5544 E5545 X5547  => hx_i (sf9_4 hQ  n (iv_up hm (iv_w (c := 1) (d := 200) (iv_lel (Int32.not_lt.mp g5542) pa3 (srd_166_71_2 hI)) (by decide +kernel)) (by decide +kernel))  pa1 (iv_max (lo := 0) (hi := 2147483647) pa2 (iv_rng _) (by decide +kernel)) (iv_w (c := 1) (d := 255) (iv_add (lo := 2) (hi := 201) (iv_w (c := 1) (d := 200) (iv_lel (Int32.not_lt.mp g5542) pa3 (srd_166_71_2 hI)) (by decide +kernel)) ivk_1 (by decide +kernel)) (by decide +kernel)) I5544 (sf_Et (by decide +kernel) hE E5545))))⟩
set_option maxRecDepth 10000 in
theorem sf9 {E : mx_Ev} {d : Nat} {h : mx_H} {Q : Option mx_V → mx_H → Prop} {a1 : Int32} (pa1 : sf_iv 0 3 a1) (hI : sf_I h) (hQ : ∀ x h', sf_I h' → sf_E 0 h h' → sf_iv 0 2147483647 x → Q (some (.inl (.int x))) h') : mx_C E (mx_fn true) (d + 1) 9 [.inr (.inl 71), .inl (.int a1)] h Q :=
  sg9_0 (sf9_4 hQ  _ (Nat.lt_succ_self _)  pa1 (iv_w (c := 0) (d := 2147483647) ivk_0 (by decide +kernel)) (iv_w (c := 1) (d := 255) ivk_1 (by decide +kernel)) hI (sf_E0 _ _))
set_option maxRecDepth 10000 in
theorem sf10_11 {E : mx_Ev} {d : Nat} {Q : Option mx_V → mx_H → Prop} {h0 : mx_H} (hQ : ∀ x h', sf_I h' → sf_E 0 h0 h' → sf_iv 0 200 x → Q (some (.inl (.int x))) h') : ∀ (n : Nat) {a1 : Int32} {a2 : Int32} {a3 : Int32} {a4 : Int32} {h : mx_H}, (a4.toInt + 2147483648).toNat < n → sf_iv 0 3 a1 → sf_iv 0 2147483647 a2 → sf_iv 0 200 a3 → sf_iv 0 200 a4 → sf_I h → sf_E 0 h0 h → mx_T E (mx_fn true) (d + 1) 0 0 10 11 [(0, .inr (.inl 71)), (1, .inl (.int a1)), (2, .inl (.int a2)), (3, .inl (.int a3)), (4, .inl (.int a4))] [] h Q
  | 0, _, _, _, _, _, hm, _, _, _, _, _, _ => absurd hm (Nat.not_lt_zero _)
  | n + 1, a1, a2, a3, a4, h, hm, pa1, pa2, pa3, pa4, hI, hE => sg10_11 ⟨fun g5557 => hQ _ _ hI hE pa3 , fun g5558 => (sf8 pa1 (iv_w (c := 1) (d := 200) (iv_ltr (Int32.not_le.mp g5558) ivk_0 pa4) (by decide +kernel)) hI (fun x5562 h5559 I5560 E5561 X5563  => hx_i ⟨fun g5564 => hQ _ _ I5560 (sf_Et (by decide +kernel) hE E5561) pa3 , fun g5565 => sf10_11 hQ  n (iv_dn hm (iv_w (c := 1) (d := 200) (iv_ltr (Int32.not_le.mp g5558) ivk_0 pa4) (by decide +kernel)) (by decide +kernel))  pa1 pa2 (iv_w (c := 0) (d := 200) (iv_w (c := 1) (d := 200) (iv_ltr (Int32.not_le.mp g5558) ivk_0 pa4) (by decide +kernel)) (by decide +kernel)) (iv_w (c := 0) (d := 200) (iv_add (lo := 0) (hi := 199) (iv_w (c := 1) (d := 200) (iv_ltr (Int32.not_le.mp g5558) ivk_0 pa4) (by decide +kernel)) ivk_m1 (by decide +kernel)) (by decide +kernel)) I5560 (sf_Et (by decide +kernel) hE E5561)⟩))⟩
set_option maxRecDepth 10000 in
theorem sf10 {E : mx_Ev} {d : Nat} {h : mx_H} {Q : Option mx_V → mx_H → Prop} {a1 : Int32} {a2 : Int32} (pa1 : sf_iv 0 3 a1) (pa2 : sf_iv 0 2147483647 a2) (hI : sf_I h) (hQ : ∀ x h', sf_I h' → sf_E 0 h h' → sf_iv 0 200 x → Q (some (.inl (.int x))) h') : mx_C E (mx_fn true) (d + 1) 10 [.inr (.inl 71), .inl (.int a1), .inl (.int a2)] h Q :=
  sg10_0 (sf10_11 hQ  _ (Nat.lt_succ_self _)  pa1 pa2 (srd_166_71_2 hI) (srd_166_71_2 hI) hI (sf_E0 _ _))
set_option maxRecDepth 10000 in
theorem sf135 {E : mx_Ev} {d : Nat} {h : mx_H} {Q : Option mx_V → mx_H → Prop} {a1 : Int32} {a2 : Int32} (pa1 : sf_iv (-2147483648) 2147483647 a1) (pa2 : sf_iv (-2147483648) 2147483647 a2) (hI : sf_I h) (hQ : ∀ x h', sf_I h' → sf_E 0 h h' → sf_iv (-4) 2147483647 x → Q (some (.inl (.int x))) h') : mx_C E (mx_fn true) (d + 2) 135 [.inr (.inl 0), .inl (.int a1), .inl (.int a2)] h Q :=
  sg135_0 (sg160_0 (sp_wi (fun g5596 => hx_i ⟨Or.inr rfl, hx_i ⟨fun g5597 => (iv_no (iv_eql g5597 ivk_1 ivk_0) (by decide +kernel)).elim, fun g5598 => ⟨fun g5599 => (sg7_0 ⟨fun g5600 => ⟨Or.inl rfl, hx_i ⟨fun g5601 => (iv_no (iv_nel g5601 ivk_0 ivk_0) (by decide +kernel)).elim, fun g5602 => hQ _ _ hI (sf_E0 _ _) (iv_w (c := -4) (d := 2147483647) ivk_m4 (by decide +kernel)) ⟩⟩, fun g5603 => ⟨(iv_in (iv_w (c := 0) (d := 3) (iv_lel g5596.2 (iv_w (c := 0) (d := 2147483647) (iv_ler g5596.1 ivk_0 pa1) (by decide +kernel)) ivk_3) (by decide +kernel)) (by decide +kernel)), ⟨fun g5604 => ⟨Or.inl rfl, hx_i ⟨fun g5605 => (iv_no (iv_nel g5605 ivk_0 ivk_0) (by decide +kernel)).elim, fun g5606 => hQ _ _ hI (sf_E0 _ _) (iv_w (c := -4) (d := 2147483647) ivk_m4 (by decide +kernel)) ⟩⟩, fun g5607 => ⟨Or.inr rfl, hx_i ⟨fun g5608 => ⟨fun g5609 => (sf10 (iv_w (c := 0) (d := 3) (iv_lel g5596.2 (iv_w (c := 0) (d := 2147483647) (iv_ler g5596.1 ivk_0 pa1) (by decide +kernel)) ivk_3) (by decide +kernel)) (iv_w (c := 0) (d := 2147483647) (iv_nel g5609 (iv_w (c := -1) (d := 2147483647) (iv_ler g5599 ivk_m1 pa2) (by decide +kernel)) ivk_m1) (by decide +kernel)) hI (fun x5613 h5610 I5611 E5612 X5614  => hx_i (hQ _ _ I5611 (sf_Et (by decide +kernel) (sf_E0 _ _) E5612) (iv_w (c := -4) (d := 2147483647) X5614 (by decide +kernel)) ))), fun g5615 => (sf9 (iv_w (c := 0) (d := 3) (iv_lel g5596.2 (iv_w (c := 0) (d := 2147483647) (iv_ler g5596.1 ivk_0 pa1) (by decide +kernel)) ivk_3) (by decide +kernel)) hI (fun x5619 h5616 I5617 E5618 X5620  => hx_i (hQ _ _ I5617 (sf_Et (by decide +kernel) (sf_E0 _ _) E5618) (iv_w (c := -4) (d := 2147483647) X5620 (by decide +kernel)) )))⟩, fun g5621 => (iv_no (iv_eql (Decidable.not_not.mp g5621) ivk_1 ivk_0) (by decide +kernel)).elim⟩⟩⟩⟩⟩), fun g5622 => hQ _ _ hI (sf_E0 _ _) (iv_w (c := -4) (d := 2147483647) ivk_m1 (by decide +kernel)) ⟩⟩⟩) (fun g5623 => hx_i ⟨Or.inl rfl, hx_i ⟨fun g5624 => hQ _ _ hI (sf_E0 _ _) (iv_w (c := -4) (d := 2147483647) ivk_m1 (by decide +kernel)) , fun g5625 => (iv_no (iv_nel g5625 ivk_0 ivk_0) (by decide +kernel)).elim⟩⟩)))
set_option maxRecDepth 10000 in
theorem sf78 {E : mx_Ev} {d : Nat} {h : mx_H} {Q : Option mx_V → mx_H → Prop} {a0 : Int32} (pa0 : sf_iv (-2) 4 a0) (hI : sf_I h) (hQ : ∀ x h', sf_I h' → sf_E 0 h h' → Q (some (.inl (.long x))) h') : mx_C E (mx_fn true) d 78 [.inl (.int a0)] h Q :=
  sg78_0 ⟨fun g5630 => ⟨fun g5631 => hQ _ _ hI (sf_E0 _ _), fun g5632 => hQ _ _ hI (sf_E0 _ _)⟩, fun g5633 => hQ _ _ hI (sf_E0 _ _)⟩
set_option maxRecDepth 10000 in
theorem sf79 {E : mx_Ev} {d : Nat} {h : mx_H} {Q : Option mx_V → mx_H → Prop} {a1 : Int32} {a2 : Int32} {a3 : Int32} (pa1 : sf_iv 0 5 a1) (pa2 : sf_iv 0 59 a2) (pa3 : sf_iv (-2147483648) 2147483647 a3) (hI : sf_I h) (hQ : ∀ h', sf_I h' → sf_E 10830740992659433045228180406808920716548582325686783496759685861775864483615725089999900023844295226942934417817982702456930304 h h' → Q none h') : mx_C E (mx_fn true) (d + 1) 79 [.inr (.inl 94), .inl (.int a1), .inl (.int a2), .inl (.int a3)] h Q :=
  sg79_0 ⟨(iv_in pa1 (by decide +kernel)), (sf78 (srd_214_95_x hI (Int32.toNatClampNeg a1)) hI (fun x5642 h5639 I5640 E5641 => hx_l ⟨(iv_in pa1 (by decide +kernel)), fn98 (iv_clamp pa1 (by decide +kernel)), ⟨(show vp_in _ 60 from (iv_in pa2 (by decide +kernel))), hQ _ (sf_uL I5640) (sf_EL (sf_Et (by decide +kernel) (sf_E0 _ _) E5641)) ⟩⟩))⟩
set_option maxRecDepth 10000 in
theorem sf80 {E : mx_Ev} {d : Nat} {h : mx_H} {Q : Option mx_V → mx_H → Prop} {a1 : Int32} {a2 : Int32} (pa1 : sf_iv 0 5 a1) (pa2 : sf_iv 0 59 a2) (hI : sf_I h) (hQ : ∀ x h', sf_I h' → sf_E 0 h h' → Q (some (.inl (.long x))) h') : mx_C E (mx_fn true) (d + 1) 80 [.inr (.inl 94), .inl (.int a1), .inl (.int a2)] h Q :=
  sg80_0 ⟨(iv_in pa1 (by decide +kernel)), fn98 (iv_clamp pa1 (by decide +kernel)), ⟨(show vp_in _ 60 from (iv_in pa2 (by decide +kernel))), ⟨(iv_in pa1 (by decide +kernel)), (sf78 (srd_214_95_x hI (Int32.toNatClampNeg a1)) hI (fun x5826 h5823 I5824 E5825 => hx_l ⟨fun g5827 => hQ _ _ I5824 (sf_Et (by decide +kernel) (sf_E0 _ _) E5825), fun g5828 => hQ _ _ I5824 (sf_Et (by decide +kernel) (sf_E0 _ _) E5825)⟩))⟩⟩⟩
set_option maxRecDepth 10000 in
theorem sf308 {E : mx_Ev} {d : Nat} {h : mx_H} {Q : Option mx_V → mx_H → Prop} {a0 : Int32} {a1 : Int32} (pa0 : sf_iv 2 60 a0) (pa1 : sf_iv 0 119 a1) (hI : sf_I h) (hQ : ∀ x h', sf_I h' → sf_E 0 h h' → sf_iv (-1) 1 x → Q (some (.inl (.int x))) h') : mx_C E (mx_fn true) d 308 [.inl (.int a0), .inl (.int a1)] h Q :=
  sg308_0 ⟨fun g5833 => ⟨fun g5834 => hQ _ _ hI (sf_E0 _ _) (iv_w (c := -1) (d := 1) ivk_1 (by decide +kernel)) , fun g5835 => hQ _ _ hI (sf_E0 _ _) (iv_w (c := -1) (d := 1) ivk_0 (by decide +kernel)) ⟩, fun g5836 => hQ _ _ hI (sf_E0 _ _) (iv_w (c := -1) (d := 1) ivk_m1 (by decide +kernel)) ⟩
set_option maxRecDepth 10000 in
theorem sf82 {E : mx_Ev} {d : Nat} {h : mx_H} {Q : Option mx_V → mx_H → Prop} {a0 : Int32} {a1 : Int32} (pa0 : sf_iv 0 77 a0) (pa1 : sf_iv 2 60 a1) (hI : sf_I h) (hQ : ∀ x h', sf_I h' → sf_E 0 h h' → sf_iv (-1) 1 x → Q (some (.inl (.int x))) h') : mx_C E (mx_fn true) (d + 1) 82 [.inl (.int a0), .inl (.int a1)] h Q :=
  sg82_0 ⟨(iv_ne0 pa1 (by decide +kernel)), (sf308 pa1 (iv_w (c := 0) (d := 119) (iv_mul (lo := 0) (hi := 118) (iv_w (c := 0) (d := 2) ivk_2 (by decide +kernel)) (iv_rem2 (lo := 0) (hi := 59) pa0 pa1 (by decide +kernel)) (by decide +kernel)) (by decide +kernel)) hI (fun x5845 h5842 I5843 E5844 X5846  => hx_i (hQ _ _ I5843 (sf_Et (by decide +kernel) (sf_E0 _ _) E5844) X5846 )))⟩
set_option maxRecDepth 10000 in
theorem sf81_8 {E : mx_Ev} {d : Nat} {Q : Option mx_V → mx_H → Prop} {h0 : mx_H} (hQ : ∀ x h', sf_I h' → sf_E 0 h0 h' → Q (some (.inl (.long x))) h') : ∀ (n : Nat) {a1 : Int32} {a2 : Int32} {a3 : Int64} {a5 : Int64} {a7 : Int32} {h : mx_H}, (2147483647 - a7.toInt).toNat < n → sf_iv 0 5 a1 → sf_iv 2 60 a2 → sf_iv 0 60 a7 → sf_I h → sf_E 0 h0 h → mx_T E (mx_fn true) (d + 2) 0 0 81 8 [(0, .inr (.inl 94)), (1, .inl (.int a1)), (2, .inl (.int a2)), (3, .inl (.long a3)), (5, .inl (.long a5)), (7, .inl (.int a7))] [] h Q
  | 0, _, _, _, _, _, _, hm, _, _, _, _, _ => absurd hm (Nat.not_lt_zero _)
  | n + 1, a1, a2, a3, a5, a7, h, hm, pa1, pa2, pa7, hI, hE => sg81_8 ⟨(iv_in pa1 (by decide +kernel)), ⟨fun g5867 => ⟨(by decide +kernel), hQ _ _ hI hE⟩, fun g5868 => (sf80 pa1 (iv_w (c := 0) (d := 59) (iv_ltl (Int32.not_le.mp g5868) pa7 (srd_215_96_x hI (Int32.toNatClampNeg a1))) (by decide +kernel)) hI (fun x5872 h5869 I5870 E5871 => hx_l (sf82 (iv_w (c := 0) (d := 77) (iv_w (c := 0) (d := 59) (iv_ltl (Int32.not_le.mp g5868) pa7 (srd_215_96_x hI (Int32.toNatClampNeg a1))) (by decide +kernel)) (by decide +kernel)) pa2 I5870 (fun x5876 h5873 I5874 E5875 X5877  => hx_i (sf80 pa1 (iv_w (c := 0) (d := 59) (iv_ltl (Int32.not_le.mp g5868) pa7 (srd_215_96_x hI (Int32.toNatClampNeg a1))) (by decide +kernel)) I5874 (fun x5881 h5878 I5879 E5880 => hx_l ⟨(by decide +kernel), (sf82 (iv_w (c := 0) (d := 77) (iv_add (lo := 0) (hi := 74) (iv_w (c := 0) (d := 59) (iv_ltl (Int32.not_le.mp g5868) pa7 (srd_215_96_x hI (Int32.toNatClampNeg a1))) (by decide +kernel)) (iv_div (lo := 0) (hi := 15) pa2 ivk_4 (by decide +kernel)) (by decide +kernel)) (by decide +kernel)) pa2 I5879 (fun x5885 h5882 I5883 E5884 X5886  => hx_i (sf81_8 hQ  n (iv_up hm (iv_w (c := 0) (d := 59) (iv_ltl (Int32.not_le.mp g5868) pa7 (srd_215_96_x hI (Int32.toNatClampNeg a1))) (by decide +kernel)) (by decide +kernel))  pa1 pa2 (iv_w (c := 0) (d := 60) (iv_add (lo := 1) (hi := 60) (iv_w (c := 0) (d := 59) (iv_ltl (Int32.not_le.mp g5868) pa7 (srd_215_96_x hI (Int32.toNatClampNeg a1))) (by decide +kernel)) ivk_1 (by decide +kernel)) (by decide +kernel)) I5883 (sf_Et (by decide +kernel) (sf_Et (by decide +kernel) (sf_Et (by decide +kernel) (sf_Et (by decide +kernel) hE E5871) E5875) E5880) E5884))))⟩))))))⟩⟩
set_option maxRecDepth 10000 in
theorem sf81 {E : mx_Ev} {d : Nat} {h : mx_H} {Q : Option mx_V → mx_H → Prop} {a1 : Int32} {a2 : Int32} (pa1 : sf_iv 0 5 a1) (pa2 : sf_iv 2 60 a2) (hI : sf_I h) (hQ : ∀ x h', sf_I h' → sf_E 0 h h' → Q (some (.inl (.long x))) h') : mx_C E (mx_fn true) (d + 2) 81 [.inr (.inl 94), .inl (.int a1), .inl (.int a2)] h Q :=
  sg81_0 (sf81_8 hQ  _ (Nat.lt_succ_self _)  pa1 pa2 (iv_w (c := 0) (d := 60) ivk_0 (by decide +kernel)) hI (sf_E0 _ _))
set_option maxRecDepth 10000 in
theorem sf137 {E : mx_Ev} {d : Nat} {h : mx_H} {Q : Option mx_V → mx_H → Prop} {a1 : Int32} {a2 : Int32} (pa1 : sf_iv (-2147483648) 2147483647 a1) (pa2 : sf_iv (-2147483648) 2147483647 a2) (hI : sf_I h) (hQ : ∀ x h', sf_I h' → sf_E 0 h h' → sf_iv (-2147483648) 2147483647 x → Q (some (.inl (.int x))) h') : mx_C E (mx_fn true) (d + 3) 137 [.inr (.inl 0), .inl (.int a1), .inl (.int a2)] h Q :=
  sg137_0 (sg161_0 (sp_wi (fun g5917 => hx_i ⟨Or.inr rfl, hx_i ⟨fun g5918 => (iv_no (iv_eql g5918 ivk_1 ivk_0) (by decide +kernel)).elim, fun g5919 => (sp_wi (fun g5920 => hx_i ⟨fun g5921 => (sg73_0 ⟨(iv_in (iv_w (c := 0) (d := 5) (iv_lel g5917.2 (iv_w (c := 0) (d := 2147483647) (iv_ler g5917.1 ivk_0 pa1) (by decide +kernel)) ivk_5) (by decide +kernel)) (by decide +kernel)), ⟨fun g5922 => ⟨(iv_in (iv_w (c := 0) (d := 5) (iv_lel g5917.2 (iv_w (c := 0) (d := 2147483647) (iv_ler g5917.1 ivk_0 pa1) (by decide +kernel)) ivk_5) (by decide +kernel)) (by decide +kernel)), (sp_wi (fun g5923 => hx_i ⟨fun g5924 => (iv_no (iv_eql g5924 ivk_1 ivk_0) (by decide +kernel)).elim, fun g5925 => hx_i ⟨fun g5926 => (sf81 (iv_w (c := 0) (d := 5) (iv_lel g5917.2 (iv_w (c := 0) (d := 2147483647) (iv_ler g5917.1 ivk_0 pa1) (by decide +kernel)) ivk_5) (by decide +kernel)) (iv_w (c := 2) (d := 60) (iv_lel g5920.2 (iv_w (c := 2) (d := 2147483647) (iv_ler g5920.1 ivk_2 pa2) (by decide +kernel)) ivk_60) (by decide +kernel)) hI (fun x5930 h5927 I5928 E5929 => hx_l (hQ _ _ I5928 (sf_Et (by decide +kernel) (sf_E0 _ _) E5929) (iv_rng _) ))), fun g5931 => (iv_no (iv_nel g5931 ivk_0 ivk_0) (by decide +kernel)).elim⟩⟩) (fun g5932 => hx_i ⟨fun g5933 => hx_i ⟨fun g5934 => (iv_no (iv_eql g5934 ivk_m12 ivk_0) (by decide +kernel)).elim, fun g5935 => hQ _ _ hI (sf_E0 _ _) (iv_w (c := -2147483648) (d := 2147483647) ivk_m12 (by decide +kernel)) ⟩, fun g5936 => (iv_no (iv_nel g5936 ivk_0 ivk_0) (by decide +kernel)).elim⟩))⟩, fun g5937 => hx_i ⟨fun g5938 => (iv_no (iv_eql g5938 ivk_m11 ivk_0) (by decide +kernel)).elim, fun g5939 => hQ _ _ hI (sf_E0 _ _) (iv_w (c := -2147483648) (d := 2147483647) ivk_m11 (by decide +kernel)) ⟩⟩⟩), fun g5940 => (iv_no (iv_eql (Decidable.not_not.mp g5940) ivk_1 ivk_0) (by decide +kernel)).elim⟩) (fun g5941 => hx_i ⟨fun g5942 => (iv_no (iv_nel g5942 ivk_0 ivk_0) (by decide +kernel)).elim, fun g5943 => hQ _ _ hI (sf_E0 _ _) (iv_w (c := -2147483648) (d := 2147483647) ivk_m1 (by decide +kernel)) ⟩))⟩⟩) (fun g5944 => hx_i ⟨Or.inl rfl, hx_i ⟨fun g5945 => hQ _ _ hI (sf_E0 _ _) (iv_w (c := -2147483648) (d := 2147483647) ivk_m1 (by decide +kernel)) , fun g5946 => (iv_no (iv_nel g5946 ivk_0 ivk_0) (by decide +kernel)).elim⟩⟩)))
set_option maxRecDepth 10000 in
theorem sf83_9 {E : mx_Ev} {d : Nat} {Q : Option mx_V → mx_H → Prop} {h0 : mx_H} (hQ : ∀ x h', sf_I h' → sf_E 0 h0 h' → sf_iv 2 60 x → Q (some (.inl (.int x))) h') : ∀ (n : Nat) {a1 : Int32} {a2 : Int32} {a3 : Int64} {a5 : Int32} {h : mx_H}, (2147483647 - a5.toInt).toNat < n → sf_iv 0 5 a1 → sf_iv 2 60 a2 → sf_iv 2 63 a5 → sf_I h → sf_E 0 h0 h → mx_T E (mx_fn true) (d + 3) 0 0 83 9 [(0, .inr (.inl 94)), (1, .inl (.int a1)), (2, .inl (.int a2)), (3, .inl (.long a3)), (5, .inl (.int a5))] [] h Q
  | 0, _, _, _, _, _, hm, _, _, _, _, _ => absurd hm (Nat.not_lt_zero _)
  | n + 1, a1, a2, a3, a5, h, hm, pa1, pa2, pa5, hI, hE => sg83_9 ⟨fun g5955 => hQ _ _ hI hE pa2 , fun g5956 => (sf81 pa1 (iv_w (c := 2) (d := 60) (iv_lel (Int32.not_lt.mp g5956) pa5 ivk_60) (by decide +kernel)) hI (fun x5960 h5957 I5958 E5959 => hx_l ⟨(iv_in pa1 (by decide +kernel)), ⟨(iv_ne0L (iv_max (lo := 1) (hi := 60) ivk_1 (iv_e (sf_fr (r := 215) E5959 rfl (by decide +kernel)) (srd_215_96_x hI (Int32.toNatClampNeg a1))) (by decide +kernel)) (by decide +kernel)), ⟨fun g5961 => sf83_9 hQ  n (iv_up hm (iv_w (c := 2) (d := 60) (iv_lel (Int32.not_lt.mp g5956) pa5 ivk_60) (by decide +kernel)) (by decide +kernel))  pa1 pa2 (iv_w (c := 2) (d := 63) (iv_add (lo := 3) (hi := 61) (iv_w (c := 2) (d := 60) (iv_lel (Int32.not_lt.mp g5956) pa5 ivk_60) (by decide +kernel)) ivk_1 (by decide +kernel)) (by decide +kernel)) I5958 (sf_Et (by decide +kernel) hE E5959), fun g5962 => sf83_9 hQ  n (iv_up hm (iv_w (c := 2) (d := 60) (iv_lel (Int32.not_lt.mp g5956) pa5 ivk_60) (by decide +kernel)) (by decide +kernel))  pa1 (iv_w (c := 2) (d := 60) (iv_lel (Int32.not_lt.mp g5956) pa5 ivk_60) (by decide +kernel)) (iv_w (c := 2) (d := 63) (iv_add (lo := 3) (hi := 61) (iv_w (c := 2) (d := 60) (iv_lel (Int32.not_lt.mp g5956) pa5 ivk_60) (by decide +kernel)) ivk_1 (by decide +kernel)) (by decide +kernel)) I5958 (sf_Et (by decide +kernel) hE E5959)⟩⟩⟩))⟩
set_option maxRecDepth 10000 in
theorem sf83 {E : mx_Ev} {d : Nat} {h : mx_H} {Q : Option mx_V → mx_H → Prop} {a1 : Int32} (pa1 : sf_iv 0 5 a1) (hI : sf_I h) (hQ : ∀ x h', sf_I h' → sf_E 0 h h' → sf_iv 2 60 x → Q (some (.inl (.int x))) h') : mx_C E (mx_fn true) (d + 3) 83 [.inr (.inl 94), .inl (.int a1)] h Q :=
  sg83_0 (sf83_9 hQ  _ (Nat.lt_succ_self _)  pa1 (iv_w (c := 2) (d := 60) ivk_2 (by decide +kernel)) (iv_w (c := 2) (d := 63) ivk_2 (by decide +kernel)) hI (sf_E0 _ _))
set_option maxRecDepth 10000 in
theorem sf138 {E : mx_Ev} {d : Nat} {h : mx_H} {Q : Option mx_V → mx_H → Prop} {a1 : Int32} (pa1 : sf_iv (-2147483648) 2147483647 a1) (hI : sf_I h) (hQ : ∀ x h', sf_I h' → sf_E 0 h h' → sf_iv (-12) 60 x → Q (some (.inl (.int x))) h') : mx_C E (mx_fn true) (d + 4) 138 [.inr (.inl 0), .inl (.int a1)] h Q :=
  sg138_0 (sg161_0 (sp_wi (fun g5990 => hx_i ⟨Or.inr rfl, hx_i ⟨fun g5991 => (sg73_0 ⟨(iv_in (iv_w (c := 0) (d := 5) (iv_lel g5990.2 (iv_w (c := 0) (d := 2147483647) (iv_ler g5990.1 ivk_0 pa1) (by decide +kernel)) ivk_5) (by decide +kernel)) (by decide +kernel)), ⟨fun g5992 => ⟨(iv_in (iv_w (c := 0) (d := 5) (iv_lel g5990.2 (iv_w (c := 0) (d := 2147483647) (iv_ler g5990.1 ivk_0 pa1) (by decide +kernel)) ivk_5) (by decide +kernel)) (by decide +kernel)), (sp_wi (fun g5993 => hx_i ⟨fun g5994 => (iv_no (iv_eql g5994 ivk_1 ivk_0) (by decide +kernel)).elim, fun g5995 => hx_i ⟨fun g5996 => ⟨(iv_in (iv_w (c := 0) (d := 5) (iv_lel g5990.2 (iv_w (c := 0) (d := 2147483647) (iv_ler g5990.1 ivk_0 pa1) (by decide +kernel)) ivk_5) (by decide +kernel)) (by decide +kernel)), ⟨fun g5997 => (sf83 (iv_w (c := 0) (d := 5) (iv_lel g5990.2 (iv_w (c := 0) (d := 2147483647) (iv_ler g5990.1 ivk_0 pa1) (by decide +kernel)) ivk_5) (by decide +kernel)) hI (fun x6001 h5998 I5999 E6000 X6002  => hx_i (hQ _ _ I5999 (sf_Et (by decide +kernel) (sf_E0 _ _) E6000) (iv_w (c := -12) (d := 60) X6002 (by decide +kernel)) ))), fun g6003 => hQ _ _ hI (sf_E0 _ _) (iv_w (c := -12) (d := 60) ivk_m2 (by decide +kernel)) ⟩⟩, fun g6004 => (iv_no (iv_nel g6004 ivk_0 ivk_0) (by decide +kernel)).elim⟩⟩) (fun g6005 => hx_i ⟨fun g6006 => hx_i ⟨fun g6007 => (iv_no (iv_eql g6007 ivk_m12 ivk_0) (by decide +kernel)).elim, fun g6008 => hQ _ _ hI (sf_E0 _ _) (iv_w (c := -12) (d := 60) ivk_m12 (by decide +kernel)) ⟩, fun g6009 => (iv_no (iv_nel g6009 ivk_0 ivk_0) (by decide +kernel)).elim⟩))⟩, fun g6010 => hx_i ⟨fun g6011 => (iv_no (iv_eql g6011 ivk_m11 ivk_0) (by decide +kernel)).elim, fun g6012 => hQ _ _ hI (sf_E0 _ _) (iv_w (c := -12) (d := 60) ivk_m11 (by decide +kernel)) ⟩⟩⟩), fun g6013 => (iv_no (iv_eql (Decidable.not_not.mp g6013) ivk_1 ivk_0) (by decide +kernel)).elim⟩⟩) (fun g6014 => hx_i ⟨Or.inl rfl, hx_i ⟨fun g6015 => (iv_no (iv_nel g6015 ivk_0 ivk_0) (by decide +kernel)).elim, fun g6016 => hQ _ _ hI (sf_E0 _ _) (iv_w (c := -12) (d := 60) ivk_m1 (by decide +kernel)) ⟩⟩)))
set_option maxRecDepth 10000 in
theorem sf53 {E : mx_Ev} {d : Nat} {h : mx_H} {Q : Option mx_V → mx_H → Prop} {a1 : Int32} {a2 : Int32} (pa1 : sf_iv 1 9 a1) (pa2 : sf_iv 1 9 a2) (hI : sf_I h) (hQ : ∀ h', sf_I h' → sf_E 600738252019428432476472034642921199978545735895972052992 h h' → Q none h') : mx_C E (mx_fn true) d 53 [.inr (.inl 80), .inl (.int a1), .inl (.int a2)] h Q :=
  sg53_0 ⟨fun g6019 => ⟨(iv_in (iv_w (c := 0) (d := 5) (iv_ltl g6019 (srd_183_80_0 hI) ivk_6) (by decide +kernel)) (by decide +kernel)), ⟨(iv_in (iv_o (by decide +kernel) (iv_w (c := 0) (d := 5) (iv_ltl g6019 (srd_183_80_0 hI) ivk_6) (by decide +kernel))) (by decide +kernel)), hQ _ (sf_uI (r := 183) (sf_uI (r := 188) (sf_uI (r := 187) hI rfl pa1 (by decide +kernel)) rfl pa2 (by decide +kernel)) rfl (iv_add (lo := 1) (hi := 6) (iv_o (by decide +kernel) (iv_o (by decide +kernel) (iv_w (c := 0) (d := 5) (iv_ltl g6019 (srd_183_80_0 hI) ivk_6) (by decide +kernel)))) ivk_1 (by decide +kernel)) (by decide +kernel)) (sf_Eu (r := 183) rfl (by decide +kernel) (sf_Eu (r := 188) rfl (by decide +kernel) (sf_Eu (r := 187) rfl (by decide +kernel) (sf_E0 _ _)))) ⟩⟩, fun g6020 => hQ _ hI (sf_E0 _ _) ⟩
set_option maxRecDepth 10000 in
theorem sf139 {E : mx_Ev} {d : Nat} {h : mx_H} {Q : Option mx_V → mx_H → Prop} {a1 : Int32} {a2 : Int32} (pa1 : sf_iv (-2147483648) 2147483647 a1) (pa2 : sf_iv (-2147483648) 2147483647 a2) (hI : sf_I h) (hQ : ∀ x h', sf_I h' → sf_E 600738252019428432476472034642921199978545735895972052992 h h' → sf_iv (-3) 6 x → Q (some (.inl (.int x))) h') : mx_C E (mx_fn true) (d + 1) 139 [.inr (.inl 0), .inl (.int a1), .inl (.int a2)] h Q :=
  sg139_0 (sp_wi (fun g6038 => hx_i ⟨fun g6039 => (iv_no (iv_eql g6039 ivk_1 ivk_0) (by decide +kernel)).elim, fun g6040 => (sp_wi (fun g6041 => hx_i ⟨fun g6042 => ⟨fun g6043 => (sf53 (iv_w (c := 1) (d := 9) (iv_lel g6038.2 (iv_w (c := 1) (d := 2147483647) (iv_ler g6038.1 ivk_1 pa1) (by decide +kernel)) ivk_9) (by decide +kernel)) (iv_w (c := 1) (d := 9) (iv_lel g6041.2 (iv_w (c := 1) (d := 2147483647) (iv_ler g6041.1 ivk_1 pa2) (by decide +kernel)) ivk_9) (by decide +kernel)) hI (fun h6044 I6045 E6046  => hx_n (hQ _ _ I6045 (sf_Et (by decide +kernel) (sf_E0 _ _) E6046) (iv_w (c := -3) (d := 6) (srd_183_80_0 I6045) (by decide +kernel)) ))), fun g6047 => hQ _ _ hI (sf_E0 _ _) (iv_w (c := -3) (d := 6) ivk_m3 (by decide +kernel)) ⟩, fun g6048 => (iv_no (iv_eql (Decidable.not_not.mp g6048) ivk_1 ivk_0) (by decide +kernel)).elim⟩) (fun g6049 => hx_i ⟨fun g6050 => (iv_no (iv_nel g6050 ivk_0 ivk_0) (by decide +kernel)).elim, fun g6051 => hQ _ _ hI (sf_E0 _ _) (iv_w (c := -3) (d := 6) ivk_m1 (by decide +kernel)) ⟩))⟩) (fun g6052 => hx_i ⟨fun g6053 => hQ _ _ hI (sf_E0 _ _) (iv_w (c := -3) (d := 6) ivk_m1 (by decide +kernel)) , fun g6054 => (iv_no (iv_nel g6054 ivk_0 ivk_0) (by decide +kernel)).elim⟩))
set_option maxRecDepth 10000 in
theorem sf54 {E : mx_Ev} {d : Nat} {h : mx_H} {Q : Option mx_V → mx_H → Prop} {a1 : Int32} {a2 : Int32} {a3 : Int32} {a4 : Int32} (pa1 : sf_iv 0 5 a1) (pa2 : sf_iv 0 6 a2) (pa3 : sf_iv 0 6 a3) (pa4 : sf_iv 0 9999 a4) (hI : sf_I h) (hQ : ∀ x h', sf_I h' → sf_E 0 h h' → sf_iv 0 1 x → Q (some (.inl (.int x))) h') : mx_C E (mx_fn true) (d + 1) 54 [.inr (.inl 80), .inl (.int a1), .inl (.int a2), .inl (.int a3), .inl (.int a4)] h Q :=
  sg54_0 ⟨(iv_in pa2 (by decide +kernel)), ⟨(iv_in pa1 (by decide +kernel)), ⟨(iv_in pa3 (by decide +kernel)), ⟨(iv_in pa1 (by decide +kernel)), ⟨fun g6057 => ⟨Or.inl rfl, hQ _ _ hI (sf_E0 _ _) (iv_w (c := 0) (d := 1) ivk_0 (by decide +kernel)) ⟩, fun g6058 => ⟨Or.inr rfl, hQ _ _ hI (sf_E0 _ _) (iv_w (c := 0) (d := 1) ivk_1 (by decide +kernel)) ⟩⟩⟩⟩⟩⟩
set_option maxRecDepth 10000 in
theorem sf55_5 {E : mx_Ev} {d : Nat} {Q : Option mx_V → mx_H → Prop} {h0 : mx_H} (hQ : ∀ x h', sf_I h' → sf_E 0 h0 h' → sf_iv (-2147483648) 2147483647 x → Q (some (.inl (.int x))) h') : ∀ (n : Nat) {a1 : Int32} {a2 : Int32} {a3 : Int32} {a4 : Int32} {h : mx_H}, (2147483647 - a4.toInt).toNat < n → sf_iv 2 7 a1 → sf_iv 0 9999 a2 → sf_iv (-2147483648) 2147483647 a3 → sf_iv 0 6 a4 → sf_I h → sf_E 0 h0 h → mx_T E (mx_fn true) (d + 2) 0 0 55 5 [(0, .inr (.inl 80)), (1, .inl (.int a1)), (2, .inl (.int a2)), (3, .inl (.int a3)), (4, .inl (.int a4))] [] h Q
  | 0, _, _, _, _, _, hm, _, _, _, _, _, _ => absurd hm (Nat.not_lt_zero _)
  | n + 1, a1, a2, a3, a4, h, hm, pa1, pa2, pa3, pa4, hI, hE => sg55_5 ⟨fun g6068 => hQ _ _ hI hE pa3 , fun g6069 => (sf54 (iv_ua (lo := 0) (hi := 5) (k := 1) pa4 (iv_w (c := 1) (d := 6) (iv_ltl (Int32.not_le.mp g6069) (iv_add (lo := 1) (hi := 7) pa4 ivk_1 (by decide +kernel)) pa1) (by decide +kernel)) rfl (by decide +kernel)) (iv_w (c := 0) (d := 6) (iv_ua (lo := 0) (hi := 5) (k := 1) pa4 (iv_w (c := 1) (d := 6) (iv_ltl (Int32.not_le.mp g6069) (iv_add (lo := 1) (hi := 7) pa4 ivk_1 (by decide +kernel)) pa1) (by decide +kernel)) rfl (by decide +kernel)) (by decide +kernel)) (iv_w (c := 0) (d := 6) (iv_w (c := 1) (d := 6) (iv_ltl (Int32.not_le.mp g6069) (iv_add (lo := 1) (hi := 7) pa4 ivk_1 (by decide +kernel)) pa1) (by decide +kernel)) (by decide +kernel)) pa2 hI (fun x6073 h6070 I6071 E6072 X6074  => hx_i ⟨fun g6075 => sf55_5 hQ  n (iv_up hm (iv_ua (lo := 0) (hi := 5) (k := 1) pa4 (iv_w (c := 1) (d := 6) (iv_ltl (Int32.not_le.mp g6069) (iv_add (lo := 1) (hi := 7) pa4 ivk_1 (by decide +kernel)) pa1) (by decide +kernel)) rfl (by decide +kernel)) (by decide +kernel))  pa1 pa2 pa3 (iv_w (c := 0) (d := 6) (iv_w (c := 1) (d := 6) (iv_ltl (Int32.not_le.mp g6069) (iv_add (lo := 1) (hi := 7) pa4 ivk_1 (by decide +kernel)) pa1) (by decide +kernel)) (by decide +kernel)) I6071 (sf_Et (by decide +kernel) hE E6072), fun g6076 => sf55_5 hQ  n (iv_up hm (iv_ua (lo := 0) (hi := 5) (k := 1) pa4 (iv_w (c := 1) (d := 6) (iv_ltl (Int32.not_le.mp g6069) (iv_add (lo := 1) (hi := 7) pa4 ivk_1 (by decide +kernel)) pa1) (by decide +kernel)) rfl (by decide +kernel)) (by decide +kernel))  pa1 pa2 (iv_rng _) (iv_w (c := 0) (d := 6) (iv_w (c := 1) (d := 6) (iv_ltl (Int32.not_le.mp g6069) (iv_add (lo := 1) (hi := 7) pa4 ivk_1 (by decide +kernel)) pa1) (by decide +kernel)) (by decide +kernel)) I6071 (sf_Et (by decide +kernel) hE E6072)⟩))⟩
set_option maxRecDepth 10000 in
theorem sf55 {E : mx_Ev} {d : Nat} {h : mx_H} {Q : Option mx_V → mx_H → Prop} {a1 : Int32} {a2 : Int32} (pa1 : sf_iv 2 7 a1) (pa2 : sf_iv 0 9999 a2) (hI : sf_I h) (hQ : ∀ x h', sf_I h' → sf_E 0 h h' → sf_iv (-2147483648) 2147483647 x → Q (some (.inl (.int x))) h') : mx_C E (mx_fn true) (d + 2) 55 [.inr (.inl 80), .inl (.int a1), .inl (.int a2)] h Q :=
  sg55_0 (sf55_5 hQ  _ (Nat.lt_succ_self _)  pa1 pa2 (iv_w (c := -2147483648) (d := 2147483647) ivk_0 (by decide +kernel)) (iv_w (c := 0) (d := 6) ivk_0 (by decide +kernel)) hI (sf_E0 _ _))
set_option maxRecDepth 10000 in
theorem sf309 {E : mx_Ev} {d : Nat} {h : mx_H} {Q : Option mx_V → mx_H → Prop} {a0 : Int32} (pa0 : sf_iv 0 127 a0) (hI : sf_I h) (hQ : ∀ x h', sf_I h' → sf_E 0 h h' → sf_iv 0 63 x → Q (some (.inl (.int x))) h') : mx_C E (mx_fn true) d 309 [.inl (.int a0)] h Q :=
  sg309_0 (hQ _ _ hI (sf_E0 _ _) (iv_and (m := 63) rfl (by decide +kernel)) )
set_option maxRecDepth 10000 in
theorem sf141 {E : mx_Ev} {d : Nat} {h : mx_H} {Q : Option mx_V → mx_H → Prop}   (hI : sf_I h) (hQ : ∀ x h', sf_I h' → sf_E 12259964326927110866866776217202473468949912977468817408 h h' → sf_iv 0 6 x → Q (some (.inl (.int x))) h') : mx_C E (mx_fn true) d 141 [.inr (.inl 0)] h Q :=
  sg141_0 (hQ _ _ (sf_uI (r := 183) hI rfl ivk_0 (by decide +kernel)) (sf_Eu (r := 183) rfl (by decide +kernel) (sf_E0 _ _)) (srd_183_80_0 hI) )
set_option maxRecDepth 10000 in
theorem sf68_62 {E : mx_Ev} {d : Nat} {Q : Option mx_V → mx_H → Prop} {h0 : mx_H} (hQ : ∀ x h', sf_I h' → sf_E 0 h0 h' → sf_iv (-2147483648) 2147483647 x → Q (some (.inl (.int x))) h') : ∀ (n : Nat) {a0 : Nat} {a2 : Int32} {a3 : Int32} {h : mx_H}, (2147483647 - a3.toInt).toNat < n → sf_iv (-2147483648) 2147483647 a2 → sf_iv 0 15 a3 → sf_I h → sf_E 0 h0 h → mx_T E (mx_fn true) d 0 0 68 62 [(0, .inr (.inr (a0, 0))), (2, .inl (.int a2)), (3, .inl (.int a3))] [] h Q
  | 0, _, _, _, _, hm, _, _, _, _ => absurd hm (Nat.not_lt_zero _)
  | n + 1, a0, a2, a3, h, hm, pa2, pa3, hI, hE => sg68_62 ⟨fun g6758 => hQ _ _ hI hE pa2 , fun g6759 => ⟨(show vp_in _ 15 from (iv_in (iv_w (c := 0) (d := 14) (iv_ltl (Int32.not_le.mp g6759) pa3 (srd_385_s_0_6 hI)) (by decide +kernel)) (by decide +kernel))), ⟨(show vp_in _ 15 from (iv_in (iv_w (c := 0) (d := 14) (iv_ltl (Int32.not_le.mp g6759) pa3 (srd_385_s_0_6 hI)) (by decide +kernel)) (by decide +kernel))), ⟨(show vp_in _ 15 from (iv_in (iv_w (c := 0) (d := 14) (iv_ltl (Int32.not_le.mp g6759) pa3 (srd_385_s_0_6 hI)) (by decide +kernel)) (by decide +kernel))), ⟨(show vp_in _ 15 from (iv_in (iv_w (c := 0) (d := 14) (iv_ltl (Int32.not_le.mp g6759) pa3 (srd_385_s_0_6 hI)) (by decide +kernel)) (by decide +kernel))), sf68_62 hQ  n (iv_up hm (iv_w (c := 0) (d := 14) (iv_ltl (Int32.not_le.mp g6759) pa3 (srd_385_s_0_6 hI)) (by decide +kernel)) (by decide +kernel))  (iv_rng _) (iv_w (c := 0) (d := 15) (iv_add (lo := 1) (hi := 15) (iv_w (c := 0) (d := 14) (iv_ltl (Int32.not_le.mp g6759) pa3 (srd_385_s_0_6 hI)) (by decide +kernel)) ivk_1 (by decide +kernel)) (by decide +kernel)) hI hE⟩⟩⟩⟩⟩
set_option maxRecDepth 10000 in
theorem sf68_4 {E : mx_Ev} {d : Nat} {Q : Option mx_V → mx_H → Prop} {h0 : mx_H} (hQ : ∀ x h', sf_I h' → sf_E 0 h0 h' → sf_iv (-2147483648) 2147483647 x → Q (some (.inl (.int x))) h') : ∀ (n : Nat) {a0 : Nat} {a2 : Int32} {a3 : Int32} {h : mx_H}, (2147483647 - a3.toInt).toNat < n → sf_iv (-2147483648) 2147483647 a2 → sf_iv 0 6 a3 → sf_I h → sf_E 0 h0 h → mx_T E (mx_fn true) d 0 0 68 4 [(0, .inr (.inr (a0, 0))), (2, .inl (.int a2)), (3, .inl (.int a3))] [] h Q
  | 0, _, _, _, _, hm, _, _, _, _ => absurd hm (Nat.not_lt_zero _)
  | n + 1, a0, a2, a3, h, hm, pa2, pa3, hI, hE => sg68_4 ⟨fun g6760 => sf68_62 hQ  _ (Nat.lt_succ_self _)  pa2 (iv_w (c := 0) (d := 15) ivk_0 (by decide +kernel)) hI hE, fun g6761 => ⟨(show vp_in _ 6 from (iv_in (iv_w (c := 0) (d := 5) (iv_ltl (Int32.not_le.mp g6761) pa3 (srd_379_s_0_0 hI)) (by decide +kernel)) (by decide +kernel))), ⟨(show vp_in _ 6 from (iv_in (iv_w (c := 0) (d := 5) (iv_ltl (Int32.not_le.mp g6761) pa3 (srd_379_s_0_0 hI)) (by decide +kernel)) (by decide +kernel))), ⟨(show vp_in _ 6 from (iv_in (iv_w (c := 0) (d := 5) (iv_ltl (Int32.not_le.mp g6761) pa3 (srd_379_s_0_0 hI)) (by decide +kernel)) (by decide +kernel))), ⟨(show vp_in _ 6 from (iv_in (iv_w (c := 0) (d := 5) (iv_ltl (Int32.not_le.mp g6761) pa3 (srd_379_s_0_0 hI)) (by decide +kernel)) (by decide +kernel))), sf68_4 hQ  n (iv_up hm (iv_w (c := 0) (d := 5) (iv_ltl (Int32.not_le.mp g6761) pa3 (srd_379_s_0_0 hI)) (by decide +kernel)) (by decide +kernel))  (iv_rng _) (iv_w (c := 0) (d := 6) (iv_add (lo := 1) (hi := 6) (iv_w (c := 0) (d := 5) (iv_ltl (Int32.not_le.mp g6761) pa3 (srd_379_s_0_0 hI)) (by decide +kernel)) ivk_1 (by decide +kernel)) (by decide +kernel)) hI hE⟩⟩⟩⟩⟩
set_option maxRecDepth 10000 in
theorem sf68 {E : mx_Ev} {d : Nat} {h : mx_H} {Q : Option mx_V → mx_H → Prop} {t0 : Nat} {a1 : Int32} (pa1 : sf_iv (-2147483648) 2147483647 a1) (hI : sf_I h) (hQ : ∀ x h', sf_I h' → sf_E 0 h h' → sf_iv (-2147483648) 2147483647 x → Q (some (.inl (.int x))) h') : mx_C E (mx_fn true) d 68 [.inr (.inr (t0, 0)), .inl (.int a1)] h Q :=
  sg68_0 (sf68_4 hQ  _ (Nat.lt_succ_self _)  pa1 (iv_w (c := 0) (d := 6) ivk_0 (by decide +kernel)) hI (sf_E0 _ _))
set_option maxRecDepth 10000 in
theorem sf146_5 {E : mx_Ev} {d : Nat} {Q : Option mx_V → mx_H → Prop} {h0 : mx_H} (hQ : ∀ x h', sf_I h' → sf_E 0 h0 h' → sf_iv (-2147483648) 2147483647 x → Q (some (.inl (.int x))) h') : ∀ (n : Nat) {a1 : Int32} {a2 : Int32} {h : mx_H}, (2147483647 - a2.toInt).toNat < n → sf_iv (-2147483648) 2147483647 a1 → sf_iv 0 12 a2 → sf_I h → sf_E 0 h0 h → mx_T E (mx_fn true) (d + 2) 0 0 146 5 [(0, .inr (.inl 0)), (1, .inl (.int a1)), (2, .inl (.int a2))] [] h Q
  | 0, _, _, _, hm, _, _, _, _ => absurd hm (Nat.not_lt_zero _)
  | n + 1, a1, a2, h, hm, pa1, pa2, hI, hE => sg146_5 ⟨fun g6777 => hQ _ _ hI hE pa1 , fun g6778 => (sg166_0 (sp_wi (fun g6779 => hx_i ⟨fun g6780 => (iv_no (iv_eql g6780 ivk_1 ivk_0) (by decide +kernel)).elim, fun g6781 => ⟨(iv_in (iv_w (c := 0) (d := 11) (iv_ltl (Int32.not_le.mp g6778) pa2 (srd_2_0_2 hI)) (by decide +kernel)) (by decide +kernel)), fun j6782 q6783 => hx_s (sf68 pa1 hI (fun x6787 h6784 I6785 E6786 X6788  => hx_i (sf146_5 hQ  n (iv_up hm (iv_w (c := 0) (d := 11) (iv_ltl (Int32.not_le.mp g6778) pa2 (srd_2_0_2 hI)) (by decide +kernel)) (by decide +kernel))  X6788 (iv_w (c := 0) (d := 12) (iv_add (lo := 1) (hi := 12) (iv_w (c := 0) (d := 11) (iv_ltl (Int32.not_le.mp g6778) pa2 (srd_2_0_2 hI)) (by decide +kernel)) ivk_1 (by decide +kernel)) (by decide +kernel)) I6785 (sf_Et (by decide +kernel) hE E6786)))), fun q6783 => hx_0 (sf146_5 hQ  n (iv_up hm (iv_w (c := 0) (d := 11) (iv_ltl (Int32.not_le.mp g6778) pa2 (srd_2_0_2 hI)) (by decide +kernel)) (by decide +kernel))  pa1 (iv_w (c := 0) (d := 12) (iv_add (lo := 1) (hi := 12) (iv_w (c := 0) (d := 11) (iv_ltl (Int32.not_le.mp g6778) pa2 (srd_2_0_2 hI)) (by decide +kernel)) ivk_1 (by decide +kernel)) (by decide +kernel)) hI hE), sf_rt hI rfl⟩⟩) (fun g6789 => hx_i ⟨fun g6790 => hx_0 (sf146_5 hQ  n (iv_up hm (iv_w (c := 0) (d := 11) (iv_ltl (Int32.not_le.mp g6778) pa2 (srd_2_0_2 hI)) (by decide +kernel)) (by decide +kernel))  pa1 (iv_w (c := 0) (d := 12) (iv_add (lo := 1) (hi := 12) (iv_w (c := 0) (d := 11) (iv_ltl (Int32.not_le.mp g6778) pa2 (srd_2_0_2 hI)) (by decide +kernel)) ivk_1 (by decide +kernel)) (by decide +kernel)) hI hE), fun g6791 => (iv_no (iv_nel g6791 ivk_0 ivk_0) (by decide +kernel)).elim⟩)))⟩
set_option maxRecDepth 10000 in
theorem sf146 {E : mx_Ev} {d : Nat} {h : mx_H} {Q : Option mx_V → mx_H → Prop}   (hI : sf_I h) (hQ : ∀ x h', sf_I h' → sf_E 0 h h' → sf_iv (-2147483648) 2147483647 x → Q (some (.inl (.int x))) h') : mx_C E (mx_fn true) (d + 2) 146 [.inr (.inl 0)] h Q :=
  sg146_0 (sf146_5 hQ  _ (Nat.lt_succ_self _)  (iv_w (c := -2147483648) (d := 2147483647) ivk_7 (by decide +kernel)) (iv_w (c := 0) (d := 12) ivk_0 (by decide +kernel)) hI (sf_E0 _ _))
set_option maxRecDepth 10000 in
theorem sf39 {E : mx_Ev} {d : Nat} {h : mx_H} {Q : Option mx_V → mx_H → Prop} {a1 : Int32} (pa1 : sf_iv 0 199 a1) (hI : sf_I h) (hQ : ∀ x h', sf_I h' → sf_E 0 h h' → sf_iv 0 9 x → Q (some (.inl (.int x))) h') : mx_C E (mx_fn true) (d + 1) 39 [.inr (.inl 90), .inl (.int a1)] h Q :=
  sg39_0 ⟨(iv_in pa1 (by decide +kernel)), fun j6803 q6804 => (sp_wi (fun g6805 => hx_i ⟨fun g6806 => (iv_no (iv_eql g6806 ivk_1 ivk_0) (by decide +kernel)).elim, fun g6807 => ⟨(show vp_in _ 15 from (iv_in (iv_w (c := 0) (d := 14) (iv_lel g6805.2 (iv_w (c := 0) (d := 199) (iv_ler g6805.1 ivk_0 (iv_sub (lo := -200) (hi := 199) pa1 (srd_384_s_0_5 hI) (by decide +kernel))) (by decide +kernel)) (iv_sub (lo := -1) (hi := 14) (srd_385_s_0_6 hI) ivk_1 (by decide +kernel))) (by decide +kernel)) (by decide +kernel))), hQ _ _ hI (sf_E0 _ _) (srd_398_s_7_x hI (Int32.toNatClampNeg (a1 - (h.2.1 (.inr (j6803, 0)) 5)))) ⟩⟩) (fun g6808 => hx_i ⟨fun g6809 => hQ _ _ hI (sf_E0 _ _) (iv_w (c := 0) (d := 9) ivk_0 (by decide +kernel)) , fun g6810 => (iv_no (iv_nel g6810 ivk_0 ivk_0) (by decide +kernel)).elim⟩)), fun q6804 => hQ _ _ hI (sf_E0 _ _) (iv_w (c := 0) (d := 9) ivk_0 (by decide +kernel)) , sf_rt hI rfl⟩
set_option maxRecDepth 10000 in
theorem sf70 {E : mx_Ev} {d : Nat} {h : mx_H} {Q : Option mx_V → mx_H → Prop} {a1 : Int32} {a2 : Int32} (pa1 : sf_iv 0 5 a1) (pa2 : sf_iv (-1) 199 a2) (hI : sf_I h) (hQ : ∀ h', sf_I h' → sf_E 184296510419975076721356548446423256558066416950960944695044210688 h h' → Q none h') : mx_C E (mx_fn true) (d + 1) 70 [.inr (.inl 94), .inl (.int a1), .inl (.int a2)] h Q :=
  sg70_0 ⟨fun g6913 => ⟨(iv_in pa1 (by decide +kernel)), ⟨(iv_in pa1 (by decide +kernel)), ⟨(iv_in pa1 (by decide +kernel)), hQ _ (sf_uI (r := 215) (sf_uI (r := 216) (sf_uI (r := 214) hI rfl ivk_m1 (by decide +kernel)) rfl (iv_max (lo := 0) (hi := 199) (iv_w (c := 0) (d := 199) (iv_ler g6913 ivk_0 pa2) (by decide +kernel)) ivk_0 (by decide +kernel)) (by decide +kernel)) rfl ivk_0 (by decide +kernel)) (sf_Eu (r := 215) rfl (by decide +kernel) (sf_Eu (r := 216) rfl (by decide +kernel) (sf_Eu (r := 214) rfl (by decide +kernel) (sf_E0 _ _)))) ⟩⟩⟩, fun g6914 => ⟨(iv_in pa1 (by decide +kernel)), ⟨(iv_in pa1 (by decide +kernel)), ⟨(iv_in pa1 (by decide +kernel)), hQ _ (sf_uI (r := 215) (sf_uI (r := 216) (sf_uI (r := 214) hI rfl ivk_m2 (by decide +kernel)) rfl (iv_max (lo := 0) (hi := 0) (iv_w (c := -1) (d := -1) (iv_ltl (Int32.not_le.mp g6914) pa2 ivk_0) (by decide +kernel)) ivk_0 (by decide +kernel)) (by decide +kernel)) rfl ivk_0 (by decide +kernel)) (sf_Eu (r := 215) rfl (by decide +kernel) (sf_Eu (r := 216) rfl (by decide +kernel) (sf_Eu (r := 214) rfl (by decide +kernel) (sf_E0 _ _)))) ⟩⟩⟩⟩
set_option maxRecDepth 10000 in
theorem sf150 {E : mx_Ev} {d : Nat} {h : mx_H} {Q : Option mx_V → mx_H → Prop} {a1 : Int32} {a2 : Int32} (pa1 : sf_iv (-2147483648) 2147483647 a1) (pa2 : sf_iv (-2147483648) 2147483647 a2) (hI : sf_I h) (hQ : ∀ x h', sf_I h' → sf_E 184296510419975076721356548446423256558066416950960944695044210688 h h' → sf_iv (-1) 1 x → Q (some (.inl (.int x))) h') : mx_C E (mx_fn true) (d + 2) 150 [.inr (.inl 0), .inl (.int a1), .inl (.int a2)] h Q :=
  sg150_0 (sg161_0 (sp_wi (fun g6935 => hx_i ⟨Or.inr rfl, hx_i ⟨fun g6936 => (iv_no (iv_eql g6936 ivk_1 ivk_0) (by decide +kernel)).elim, fun g6937 => ⟨fun g6938 => (sf70 (iv_w (c := 0) (d := 5) (iv_lel g6935.2 (iv_w (c := 0) (d := 2147483647) (iv_ler g6935.1 ivk_0 pa1) (by decide +kernel)) ivk_5) (by decide +kernel)) (iv_w (c := -1) (d := 199) (iv_w (c := -1) (d := -1) (iv_eql g6938 pa2 ivk_m1) (by decide +kernel)) (by decide +kernel)) hI (fun h6939 I6940 E6941  => hx_n (hQ _ _ I6940 (sf_Et (by decide +kernel) (sf_E0 _ _) E6941) (iv_w (c := -1) (d := 1) ivk_1 (by decide +kernel)) ))), fun g6942 => (sg163_0 (sp_wi (fun g6943 => hx_i ⟨Or.inr rfl, hx_i ⟨fun g6944 => (sf70 (iv_w (c := 0) (d := 5) (iv_lel g6935.2 (iv_w (c := 0) (d := 2147483647) (iv_ler g6935.1 ivk_0 pa1) (by decide +kernel)) ivk_5) (by decide +kernel)) (iv_w (c := -1) (d := 199) (iv_w (c := 0) (d := 199) (iv_lel g6943.2 (iv_w (c := 0) (d := 2147483647) (iv_ler g6943.1 ivk_0 pa2) (by decide +kernel)) (iv_sub (lo := -1) (hi := 199) (srd_202_90_0 hI) ivk_1 (by decide +kernel))) (by decide +kernel)) (by decide +kernel)) hI (fun h6945 I6946 E6947  => hx_n (hQ _ _ I6946 (sf_Et (by decide +kernel) (sf_E0 _ _) E6947) (iv_w (c := -1) (d := 1) ivk_1 (by decide +kernel)) ))), fun g6948 => (iv_no (iv_eql (Decidable.not_not.mp g6948) ivk_1 ivk_0) (by decide +kernel)).elim⟩⟩) (fun g6949 => hx_i ⟨Or.inl rfl, hx_i ⟨fun g6950 => (iv_no (iv_nel g6950 ivk_0 ivk_0) (by decide +kernel)).elim, fun g6951 => hQ _ _ hI (sf_E0 _ _) (iv_w (c := -1) (d := 1) ivk_m1 (by decide +kernel)) ⟩⟩)))⟩⟩⟩) (fun g6952 => hx_i ⟨Or.inl rfl, hx_i ⟨fun g6953 => hQ _ _ hI (sf_E0 _ _) (iv_w (c := -1) (d := 1) ivk_m1 (by decide +kernel)) , fun g6954 => (iv_no (iv_nel g6954 ivk_0 ivk_0) (by decide +kernel)).elim⟩⟩)))
set_option maxRecDepth 10000 in
theorem sf71 {E : mx_Ev} {d : Nat} {h : mx_H} {Q : Option mx_V → mx_H → Prop} {a1 : Int32} {a2 : Int32} {a3 : Int32} (pa1 : sf_iv 0 5 a1) (pa2 : sf_iv 0 4 a2) (pa3 : sf_iv 0 60 a3) (hI : sf_I h) (hQ : ∀ h', sf_I h' → sf_E 10830740992659433045228180406808920716548582325686783496759685940760083235033615113438420786597119466114255968229816143190163456 h h' → Q none h') : mx_C E (mx_fn true) (d + 1) 71 [.inr (.inl 94), .inl (.int a1), .inl (.int a2), .inl (.int a3)] h Q :=
  sg71_0 ⟨(iv_in pa1 (by decide +kernel)), ⟨(iv_in pa1 (by decide +kernel)), ⟨(iv_in pa1 (by decide +kernel)), fn98 (iv_clamp pa1 (by decide +kernel)), (sf_fillL (sf_uI (r := 215) (sf_uI (r := 214) hI rfl pa2 (by decide +kernel)) rfl pa3 (by decide +kernel)) (fun h6958 I6959 E6960 => hx_n (hQ _ I6959 (sf_Et (by decide +kernel) (sf_Eu (r := 215) rfl (by decide +kernel) (sf_Eu (r := 214) rfl (by decide +kernel) (sf_E0 _ _))) E6960) )))⟩⟩⟩
set_option maxRecDepth 10000 in
theorem sf151 {E : mx_Ev} {d : Nat} {h : mx_H} {Q : Option mx_V → mx_H → Prop} {a1 : Int32} {a2 : Int32} {a3 : Int32} (pa1 : sf_iv (-2147483648) 2147483647 a1) (pa2 : sf_iv (-2147483648) 2147483647 a2) (pa3 : sf_iv (-2147483648) 2147483647 a3) (hI : sf_I h) (hQ : ∀ x h', sf_I h' → sf_E 10830740992659433045228180406808920716548582325686783496759685940760083235033615113438420786597119466114255968229816143190163456 h h' → sf_iv (-14) 1 x → Q (some (.inl (.int x))) h') : mx_C E (mx_fn true) (d + 2) 151 [.inr (.inl 0), .inl (.int a1), .inl (.int a2), .inl (.int a3)] h Q :=
  sg151_0 (sg161_0 (sp_wi (fun g6980 => hx_i ⟨Or.inr rfl, hx_i ⟨fun g6981 => (iv_no (iv_eql g6981 ivk_1 ivk_0) (by decide +kernel)).elim, fun g6982 => (sp_wi (fun g6983 => hx_i ⟨fun g6984 => (iv_no (iv_eql g6984 ivk_1 ivk_0) (by decide +kernel)).elim, fun g6985 => ⟨fun g6986 => ⟨fun g6987 => (sf71 (iv_w (c := 0) (d := 5) (iv_lel g6980.2 (iv_w (c := 0) (d := 2147483647) (iv_ler g6980.1 ivk_0 pa1) (by decide +kernel)) ivk_5) (by decide +kernel)) (iv_w (c := 0) (d := 4) (iv_lel g6983.2 (iv_w (c := 0) (d := 2147483647) (iv_ler g6983.1 ivk_0 pa2) (by decide +kernel)) ivk_4) (by decide +kernel)) (iv_w (c := 0) (d := 60) (iv_ler g6987 ivk_0 (iv_w (c := -2147483648) (d := 60) (iv_lel g6986 pa3 ivk_60) (by decide +kernel))) (by decide +kernel)) hI (fun h6988 I6989 E6990  => hx_n (hQ _ _ I6989 (sf_Et (by decide +kernel) (sf_E0 _ _) E6990) (iv_w (c := -14) (d := 1) ivk_1 (by decide +kernel)) ))), fun g6991 => hQ _ _ hI (sf_E0 _ _) (iv_w (c := -14) (d := 1) ivk_m14 (by decide +kernel)) ⟩, fun g6992 => hQ _ _ hI (sf_E0 _ _) (iv_w (c := -14) (d := 1) ivk_m1 (by decide +kernel)) ⟩⟩) (fun g6993 => hx_i ⟨fun g6994 => hQ _ _ hI (sf_E0 _ _) (iv_w (c := -14) (d := 1) ivk_m1 (by decide +kernel)) , fun g6995 => (iv_no (iv_nel g6995 ivk_0 ivk_0) (by decide +kernel)).elim⟩))⟩⟩) (fun g6996 => hx_i ⟨Or.inl rfl, hx_i ⟨fun g6997 => hQ _ _ hI (sf_E0 _ _) (iv_w (c := -14) (d := 1) ivk_m1 (by decide +kernel)) , fun g6998 => (iv_no (iv_nel g6998 ivk_0 ivk_0) (by decide +kernel)).elim⟩⟩)))
set_option maxRecDepth 10000 in
theorem sf153 {E : mx_Ev} {d : Nat} {h : mx_H} {Q : Option mx_V → mx_H → Prop} {a1 : Int32} {a2 : Int32} (pa1 : sf_iv (-2147483648) 2147483647 a1) (pa2 : sf_iv (-2147483648) 2147483647 a2) (hI : sf_I h) (hQ : ∀ x h', sf_I h' → sf_E 0 h h' → Q (some (.inl (.long x))) h') : mx_C E (mx_fn true) (d + 2) 153 [.inr (.inl 0), .inl (.int a1), .inl (.int a2)] h Q :=
  sg153_0 (sg161_0 (sp_wi (fun g7113 => hx_i ⟨Or.inr rfl, hx_i ⟨fun g7114 => (iv_no (iv_eql g7114 ivk_1 ivk_0) (by decide +kernel)).elim, fun g7115 => (sg72_0 ⟨(iv_in (iv_w (c := 0) (d := 5) (iv_lel g7113.2 (iv_w (c := 0) (d := 2147483647) (iv_ler g7113.1 ivk_0 pa1) (by decide +kernel)) ivk_5) (by decide +kernel)) (by decide +kernel)), ⟨fun g7116 => ⟨(iv_in (iv_w (c := 0) (d := 5) (iv_lel g7113.2 (iv_w (c := 0) (d := 2147483647) (iv_ler g7113.1 ivk_0 pa1) (by decide +kernel)) ivk_5) (by decide +kernel)) (by decide +kernel)), ⟨fun g7117 => hx_i ⟨fun g7118 => (iv_no (iv_nel g7118 ivk_0 ivk_0) (by decide +kernel)).elim, fun g7119 => (sg74_0 ⟨fun g7120 => ⟨Or.inl rfl, hx_i ⟨fun g7121 => (iv_no (iv_nel g7121 ivk_0 ivk_0) (by decide +kernel)).elim, fun g7122 => hQ _ _ hI (sf_E0 _ _)⟩⟩, fun g7123 => ⟨(iv_in (iv_w (c := 0) (d := 5) (iv_lel g7113.2 (iv_w (c := 0) (d := 2147483647) (iv_ler g7113.1 ivk_0 pa1) (by decide +kernel)) ivk_5) (by decide +kernel)) (by decide +kernel)), ⟨fun g7124 => ⟨Or.inl rfl, hx_i ⟨fun g7125 => (iv_no (iv_nel g7125 ivk_0 ivk_0) (by decide +kernel)).elim, fun g7126 => hQ _ _ hI (sf_E0 _ _)⟩⟩, fun g7127 => ⟨Or.inr rfl, hx_i ⟨fun g7128 => ⟨(iv_in (iv_w (c := 0) (d := 5) (iv_lel g7113.2 (iv_w (c := 0) (d := 2147483647) (iv_ler g7113.1 ivk_0 pa1) (by decide +kernel)) ivk_5) (by decide +kernel)) (by decide +kernel)), fn98 (iv_clamp (iv_w (c := 0) (d := 5) (iv_lel g7113.2 (iv_w (c := 0) (d := 2147483647) (iv_ler g7113.1 ivk_0 pa1) (by decide +kernel)) ivk_5) (by decide +kernel)) (by decide +kernel)), ⟨(show vp_in _ 60 from (iv_in (iv_w (c := 0) (d := 59) (iv_ltl (Int32.not_le.mp g7127) (iv_w (c := 0) (d := 2147483647) (iv_ler (Int32.not_lt.mp g7123) ivk_0 pa2) (by decide +kernel)) (srd_215_96_x hI (Int32.toNatClampNeg a1))) (by decide +kernel)) (by decide +kernel))), hQ _ _ hI (sf_E0 _ _)⟩⟩, fun g7129 => (iv_no (iv_eql (Decidable.not_not.mp g7129) ivk_1 ivk_0) (by decide +kernel)).elim⟩⟩⟩⟩⟩)⟩, fun g7130 => hx_i ⟨fun g7131 => hQ _ _ hI (sf_E0 _ _), fun g7132 => (iv_no (iv_eql (Decidable.not_not.mp g7132) ivk_m12 ivk_0) (by decide +kernel)).elim⟩⟩⟩, fun g7133 => hx_i ⟨fun g7134 => hQ _ _ hI (sf_E0 _ _), fun g7135 => (iv_no (iv_eql (Decidable.not_not.mp g7135) ivk_m11 ivk_0) (by decide +kernel)).elim⟩⟩⟩)⟩⟩) (fun g7136 => hx_i ⟨Or.inl rfl, hx_i ⟨fun g7137 => hQ _ _ hI (sf_E0 _ _), fun g7138 => (iv_no (iv_nel g7138 ivk_0 ivk_0) (by decide +kernel)).elim⟩⟩)))
set_option maxRecDepth 10000 in
theorem sf38_4 {E : mx_Ev} {d : Nat} {Q : Option mx_V → mx_H → Prop} {h0 : mx_H} (hQ : ∀ x h', sf_I h' → sf_E 0 h0 h' → sf_iv 0 1 x → Q (some (.inl (.int x))) h') : ∀ (n : Nat) {a1 : Int32} {a2 : Int32} {a3 : Int32} {h : mx_H}, (2147483647 - a3.toInt).toNat < n → sf_iv 0 5 a1 → sf_iv (-1) 5 a2 → sf_iv 0 6 a3 → sf_I h → sf_E 0 h0 h → mx_T E (mx_fn true) d 0 0 38 4 [(1, .inl (.int a1)), (2, .inl (.int a2)), (3, .inl (.int a3))] [] h Q
  | 0, _, _, _, _, hm, _, _, _, _, _ => absurd hm (Nat.not_lt_zero _)
  | n + 1, a1, a2, a3, h, hm, pa1, pa2, pa3, hI, hE => sg38_4 ⟨Or.inl rfl, ⟨fun g7189 => ⟨Or.inl rfl, hQ _ _ hI hE (iv_w (c := 0) (d := 1) ivk_0 (by decide +kernel)) ⟩, fun g7190 => ⟨fun g7191 => ⟨Or.inl rfl, hQ _ _ hI hE (iv_w (c := 0) (d := 1) ivk_0 (by decide +kernel)) ⟩, fun g7192 => ⟨fun g7193 => ⟨Or.inl rfl, (show vp_in _ 6 from (iv_in (iv_w (c := 0) (d := 5) (iv_ler (Int32.not_lt.mp g7192) ivk_0 pa2) (by decide +kernel)) (by decide +kernel))), sf38_4 hQ  n (iv_up hm (iv_w (c := 0) (d := 5) (iv_ltl (Int32.not_le.mp g7190) pa3 ivk_6) (by decide +kernel)) (by decide +kernel))  pa1 (iv_w (c := -1) (d := 5) (iv_sv0 _ _) (by decide +kernel)) (iv_w (c := 0) (d := 6) (iv_add (lo := 1) (hi := 6) (iv_w (c := 0) (d := 5) (iv_ltl (Int32.not_le.mp g7190) pa3 ivk_6) (by decide +kernel)) ivk_1 (by decide +kernel)) (by decide +kernel)) hI hE⟩, fun g7194 => ⟨Or.inr rfl, hQ _ _ hI hE (iv_w (c := 0) (d := 1) ivk_1 (by decide +kernel)) ⟩⟩⟩⟩⟩
set_option maxRecDepth 10000 in
theorem sf38 {E : mx_Ev} {d : Nat} {h : mx_H} {Q : Option mx_V → mx_H → Prop} {a0 : Int32} {a1 : Int32} (pa0 : sf_iv 0 5 a0) (pa1 : sf_iv 0 5 a1) (hI : sf_I h) (hQ : ∀ x h', sf_I h' → sf_E 0 h h' → sf_iv 0 1 x → Q (some (.inl (.int x))) h') : mx_C E (mx_fn true) d 38 [.inl (.int a0), .inl (.int a1)] h Q :=
  sg38_0 (sf38_4 hQ  _ (Nat.lt_succ_self _)  pa1 (iv_w (c := -1) (d := 5) pa0 (by decide +kernel)) (iv_w (c := 0) (d := 6) ivk_0 (by decide +kernel)) hI (sf_E0 _ _))
set_option maxRecDepth 10000 in
theorem sf155 {E : mx_Ev} {d : Nat} {h : mx_H} {Q : Option mx_V → mx_H → Prop} {a1 : Int32} {a2 : Int32} (pa1 : sf_iv (-2147483648) 2147483647 a1) (pa2 : sf_iv (-2147483648) 2147483647 a2) (hI : sf_I h) (hQ : ∀ x h', sf_I h' → sf_E 0 h h' → sf_iv (-12) 5 x → Q (some (.inl (.int x))) h') : mx_C E (mx_fn true) (d + 2) 155 [.inr (.inl 0), .inl (.int a1), .inl (.int a2)] h Q :=
  sg155_0 (sg161_0 (sp_wi (fun g7224 => hx_i ⟨Or.inr rfl, hx_i ⟨fun g7225 => (iv_no (iv_eql g7225 ivk_1 ivk_0) (by decide +kernel)).elim, fun g7226 => (sg162_0 (sp_wi (fun g7227 => hx_i ⟨Or.inr rfl, hx_i ⟨fun g7228 => ⟨(iv_in (iv_w (c := 0) (d := 5) (iv_lel g7224.2 (iv_w (c := 0) (d := 2147483647) (iv_ler g7224.1 ivk_0 pa1) (by decide +kernel)) ivk_5) (by decide +kernel)) (by decide +kernel)), ⟨fun g7229 => ⟨(iv_in (iv_w (c := 0) (d := 5) (iv_lel g7224.2 (iv_w (c := 0) (d := 2147483647) (iv_ler g7224.1 ivk_0 pa1) (by decide +kernel)) ivk_5) (by decide +kernel)) (by decide +kernel)), ⟨(iv_in (iv_w (c := 0) (d := 5) (iv_lel g7224.2 (iv_w (c := 0) (d := 2147483647) (iv_ler g7224.1 ivk_0 pa1) (by decide +kernel)) ivk_5) (by decide +kernel)) (by decide +kernel)), ⟨fun g7230 => hQ _ _ hI (sf_E0 _ _) (iv_w (c := -12) (d := 5) ivk_m12 (by decide +kernel)) , fun g7231 => (sg163_0 (sp_wi (fun g7232 => hx_i ⟨Or.inr rfl, hx_i ⟨fun g7233 => ⟨(iv_in (srd_216_97_x hI (Int32.toNatClampNeg a1)) (by decide +kernel)), (sf38 (srd_207_91_x hI (Int32.toNatClampNeg (h.2.1 (.inl 97) (Int32.toNatClampNeg a1)))) (iv_w (c := 0) (d := 5) (iv_lel g7227.2 (iv_w (c := 0) (d := 2147483647) (iv_ler g7227.1 ivk_0 pa2) (by decide +kernel)) ivk_5) (by decide +kernel)) hI (fun x7237 h7234 I7235 E7236 X7238  => hx_i ⟨fun g7239 => hQ _ _ I7235 (sf_Et (by decide +kernel) (sf_E0 _ _) E7236) (iv_w (c := -12) (d := 5) ivk_m12 (by decide +kernel)) , fun g7240 => hQ _ _ I7235 (sf_Et (by decide +kernel) (sf_E0 _ _) E7236) (iv_w (c := -12) (d := 5) (srd_207_91_x hI (Int32.toNatClampNeg (h.2.1 (.inl 97) (Int32.toNatClampNeg a1)))) (by decide +kernel)) ⟩))⟩, fun g7241 => (iv_no (iv_eql (Decidable.not_not.mp g7241) ivk_1 ivk_0) (by decide +kernel)).elim⟩⟩) (fun g7242 => hx_i ⟨Or.inl rfl, hx_i ⟨fun g7243 => (iv_no (iv_nel g7243 ivk_0 ivk_0) (by decide +kernel)).elim, fun g7244 => hQ _ _ hI (sf_E0 _ _) (iv_w (c := -12) (d := 5) ivk_m12 (by decide +kernel)) ⟩⟩)))⟩⟩⟩, fun g7245 => hQ _ _ hI (sf_E0 _ _) (iv_w (c := -12) (d := 5) ivk_m11 (by decide +kernel)) ⟩⟩, fun g7246 => (iv_no (iv_eql (Decidable.not_not.mp g7246) ivk_1 ivk_0) (by decide +kernel)).elim⟩⟩) (fun g7247 => hx_i ⟨Or.inl rfl, hx_i ⟨fun g7248 => (iv_no (iv_nel g7248 ivk_0 ivk_0) (by decide +kernel)).elim, fun g7249 => hQ _ _ hI (sf_E0 _ _) (iv_w (c := -12) (d := 5) ivk_m1 (by decide +kernel)) ⟩⟩)))⟩⟩) (fun g7250 => hx_i ⟨Or.inl rfl, hx_i ⟨fun g7251 => hQ _ _ hI (sf_E0 _ _) (iv_w (c := -12) (d := 5) ivk_m1 (by decide +kernel)) , fun g7252 => (iv_no (iv_nel g7252 ivk_0 ivk_0) (by decide +kernel)).elim⟩⟩)))
set_option maxRecDepth 10000 in
theorem sf186 {E : mx_Ev} {d : Nat} {h : mx_H} {Q : Option mx_V → mx_H → Prop}   (hI : sf_I h) (hQ : ∀ h', sf_I h' → sf_E 7067388259113537318333190002971674063309935587502475832486424805170479104 h h' → Q none h') : mx_C E (mx_fn true) d 186 [.inr (.inl 105)] h Q :=
  sg186_0 ⟨fun g7417 => hQ _ hI (sf_E0 _ _) , fun g7418 => hQ _ (sf_uI (r := 242) hI rfl (srd_241_105_17 hI) (by decide +kernel)) (sf_Eu (r := 242) rfl (by decide +kernel) (sf_E0 _ _)) ⟩
set_option maxRecDepth 10000 in
theorem sf188 {E : mx_Ev} {d : Nat} {h : mx_H} {Q : Option mx_V → mx_H → Prop}   (hI : sf_I h) (hQ : ∀ x h', sf_I h' → sf_E 10601082388670305977499785004457511094964903381253713748729637207755718656 h h' → sf_iv (-49) 9 x → Q (some (.inl (.int x))) h') : mx_C E (mx_fn true) (d + 2) 188 [.inr (.inl 105)] h Q :=
  sg188_0 (sg187_0 (sg185_0 ⟨fun g7439 => hx_i (sp_ini (fun g7440 => (iv_no (iv_lel g7440.1 ivk_49 ivk_m1) (by decide +kernel)).elim) (fun g7441 => hx_i ⟨Or.inl rfl, hx_i ⟨fun g7442 => (iv_no (iv_nel g7442 ivk_0 ivk_0) (by decide +kernel)).elim, fun g7443 => (sf186  hI (fun h7444 I7445 E7446  => hx_n (hQ _ _ I7445 (sf_Et (by decide +kernel) (sf_E0 _ _) E7446) (iv_w (c := -49) (d := 9) ivk_0 (by decide +kernel)) )))⟩⟩)), fun g7447 => ⟨(iv_in (iv_w (c := 0) (d := 119) (iv_ltl (Int32.not_le.mp g7447) (srd_241_105_17 hI) (srd_240_105_16 hI)) (by decide +kernel)) (by decide +kernel)), hx_i (sp_ini (fun g7448 => hx_i ⟨Or.inr rfl, hx_i ⟨fun g7449 => (sg185_0 ⟨fun g7450 => hx_i (hQ _ _ (sf_uI (r := 241) hI rfl (iv_add (lo := 2) (hi := 120) (iv_w (c := 1) (d := 119) (iv_ler g7450 (iv_w (c := 1) (d := 120) (iv_ltr (Int32.not_le.mp g7447) (srd_241_105_17 hI) (srd_240_105_16 hI)) (by decide +kernel)) (iv_w (c := 0) (d := 119) (iv_ltl (Int32.not_le.mp g7447) (srd_241_105_17 hI) (srd_240_105_16 hI)) (by decide +kernel))) (by decide +kernel)) ivk_1 (by decide +kernel)) (by decide +kernel)) (sf_Eu (r := 241) rfl (by decide +kernel) (sf_E0 _ _)) (iv_w (c := -49) (d := 9) (iv_sub (lo := -49) (hi := -49) ivk_m1 ivk_48 (by decide +kernel)) (by decide +kernel)) ), fun g7451 => ⟨(iv_in (iv_w (c := 0) (d := 119) (iv_ltl (Int32.not_le.mp g7447) (srd_241_105_17 hI) (srd_240_105_16 hI)) (by decide +kernel)) (by decide +kernel)), hx_i (hQ _ _ (sf_uI (r := 241) hI rfl (iv_add (lo := 1) (hi := 120) (iv_w (c := 0) (d := 119) (iv_ltl (Int32.not_le.mp g7447) (srd_241_105_17 hI) (srd_240_105_16 hI)) (by decide +kernel)) ivk_1 (by decide +kernel)) (by decide +kernel)) (sf_Eu (r := 241) rfl (by decide +kernel) (sf_E0 _ _)) (iv_w (c := -49) (d := 9) (iv_sub (lo := 1) (hi := 9) (iv_w (c := 49) (d := 57) (iv_lel g7448.2 (iv_w (c := 49) (d := 127) (iv_ler g7448.1 ivk_49 (srd_330_118_x hI (Int32.toNatClampNeg (h.2.1 (.inl 105) 17)))) (by decide +kernel)) ivk_57) (by decide +kernel)) ivk_48 (by decide +kernel)) (by decide +kernel)) )⟩⟩), fun g7452 => (iv_no (iv_eql (Decidable.not_not.mp g7452) ivk_1 ivk_0) (by decide +kernel)).elim⟩⟩) (fun g7453 => hx_i ⟨Or.inl rfl, hx_i ⟨fun g7454 => (iv_no (iv_nel g7454 ivk_0 ivk_0) (by decide +kernel)).elim, fun g7455 => (sf186  hI (fun h7456 I7457 E7458  => hx_n (hQ _ _ I7457 (sf_Et (by decide +kernel) (sf_E0 _ _) E7458) (iv_w (c := -49) (d := 9) ivk_0 (by decide +kernel)) )))⟩⟩))⟩⟩))
set_option maxRecDepth 10000 in
theorem sf180 {E : mx_Ev} {d : Nat} {h : mx_H} {Q : Option mx_V → mx_H → Prop} {a1 : Int32} {a2 : Int32} {a3 : Int32} (pa1 : sf_iv 0 12 a1) (pa2 : sf_iv 0 5 a2) (pa3 : sf_iv 0 5 a3) (hI : sf_I h) (hQ : ∀ x h', sf_I h' → sf_E 0 h h' → sf_iv 0 1 x → Q (some (.inl (.int x))) h') : mx_C E (mx_fn true) (d + 1) 180 [.inr (.inl 105), .inl (.int a1), .inl (.int a2), .inl (.int a3)] h Q :=
  sg180_0 (sg179_0 (hx_i ⟨(iv_in (iv_add (lo := 0) (hi := 467) (iv_add (lo := 0) (hi := 462) (iv_mul (lo := 0) (hi := 432) (iv_w (c := 0) (d := 36) ivk_36 (by decide +kernel)) pa1 (by decide +kernel)) (iv_mul (lo := 0) (hi := 30) (iv_w (c := 0) (d := 6) ivk_6 (by decide +kernel)) pa2 (by decide +kernel)) (by decide +kernel)) pa3 (by decide +kernel)) (by decide +kernel)), ⟨fun g7461 => ⟨Or.inl rfl, hQ _ _ hI (sf_E0 _ _) (iv_w (c := 0) (d := 1) ivk_0 (by decide +kernel)) ⟩, fun g7462 => ⟨Or.inr rfl, hQ _ _ hI (sf_E0 _ _) (iv_w (c := 0) (d := 1) ivk_1 (by decide +kernel)) ⟩⟩⟩))
set_option maxRecDepth 10000 in
theorem sf197 {E : mx_Ev} {d : Nat} {h : mx_H} {Q : Option mx_V → mx_H → Prop} {a1 : Int32} {a2 : Int32} {a3 : Int32} {a4 : Int32} (pa1 : sf_iv (-2147483648) 2147483647 a1) (pa2 : sf_iv (-2147483648) 2147483647 a2) (pa3 : sf_iv (-2147483648) 2147483647 a3) (pa4 : sf_iv (-2147483648) 2147483647 a4) (hI : sf_I h) (hQ : ∀ x h', sf_I h' → sf_E 0 h h' → sf_iv (-2) 200 x → Q (some (.inl (.int x))) h') : mx_C E (mx_fn true) (d + 2) 197 [.inr (.inl 105), .inl (.int a1), .inl (.int a2), .inl (.int a3), .inl (.int a4)] h Q :=
  sg197_0 (sg177_0 (sp_ini (fun g7782 => hx_i ⟨Or.inr rfl, hx_i ⟨fun g7783 => (iv_no (iv_eql g7783 ivk_1 ivk_0) (by decide +kernel)).elim, fun g7784 => (sg178_0 ⟨(iv_in (iv_w (c := 0) (d := 11) (iv_lel g7782.2 (iv_w (c := 0) (d := 2147483647) (iv_ler g7782.1 ivk_0 pa1) (by decide +kernel)) (iv_sub (lo := -1) (hi := 11) (srd_225_105_1 hI) ivk_1 (by decide +kernel))) (by decide +kernel)) (by decide +kernel)), (sp_ini (fun g7785 => hx_i ⟨Or.inr rfl, hx_i ⟨fun g7786 => (iv_no (iv_eql g7786 ivk_1 ivk_0) (by decide +kernel)).elim, fun g7787 => (sg178_0 ⟨(iv_in (iv_w (c := 0) (d := 11) (iv_lel g7782.2 (iv_w (c := 0) (d := 2147483647) (iv_ler g7782.1 ivk_0 pa1) (by decide +kernel)) (iv_sub (lo := -1) (hi := 11) (srd_225_105_1 hI) ivk_1 (by decide +kernel))) (by decide +kernel)) (by decide +kernel)), (sp_ini (fun g7788 => hx_i ⟨Or.inr rfl, hx_i ⟨fun g7789 => (iv_no (iv_eql g7789 ivk_1 ivk_0) (by decide +kernel)).elim, fun g7790 => (sp_ini (fun g7791 => hx_i ⟨fun g7792 => ⟨fun g7793 => hQ _ _ hI (sf_E0 _ _) (iv_w (c := -2) (d := 200) ivk_m2 (by decide +kernel)) , fun g7794 => (sf180 (iv_w (c := 0) (d := 12) (iv_w (c := 0) (d := 11) (iv_lel g7782.2 (iv_w (c := 0) (d := 2147483647) (iv_ler g7782.1 ivk_0 pa1) (by decide +kernel)) (iv_sub (lo := -1) (hi := 11) (srd_225_105_1 hI) ivk_1 (by decide +kernel))) (by decide +kernel)) (by decide +kernel)) (iv_w (c := 0) (d := 5) (iv_lel g7785.2 (iv_w (c := 0) (d := 2147483647) (iv_ler g7785.1 ivk_0 pa2) (by decide +kernel)) (iv_sub (lo := -1) (hi := 5) (srd_318_106_x hI (Int32.toNatClampNeg a1)) ivk_1 (by decide +kernel))) (by decide +kernel)) (iv_w (c := 0) (d := 5) (iv_lel g7788.2 (iv_w (c := 0) (d := 2147483647) (iv_ler g7788.1 ivk_0 pa3) (by decide +kernel)) (iv_w (c := 0) (d := 5) (iv_ler g7785.2 (iv_w (c := 0) (d := 2147483647) (iv_ler g7785.1 ivk_0 pa2) (by decide +kernel)) (iv_sub (lo := -1) (hi := 5) (srd_318_106_x hI (Int32.toNatClampNeg a1)) ivk_1 (by decide +kernel))) (by decide +kernel))) (by decide +kernel)) hI (fun x7798 h7795 I7796 E7797 X7799  => hx_i ⟨fun g7800 => (sg179_0 (hx_i ⟨fun g7801 => ⟨fun g7802 => ⟨(iv_in (iv_add (lo := 0) (hi := 431) (iv_add (lo := 0) (hi := 426) (iv_mul (lo := 0) (hi := 396) (iv_w (c := 0) (d := 36) ivk_36 (by decide +kernel)) (iv_w (c := 0) (d := 11) (iv_lel g7782.2 (iv_w (c := 0) (d := 2147483647) (iv_ler g7782.1 ivk_0 pa1) (by decide +kernel)) (iv_sub (lo := -1) (hi := 11) (srd_225_105_1 hI) ivk_1 (by decide +kernel))) (by decide +kernel)) (by decide +kernel)) (iv_mul (lo := 0) (hi := 30) (iv_w (c := 0) (d := 6) ivk_6 (by decide +kernel)) (iv_w (c := 0) (d := 5) (iv_lel g7785.2 (iv_w (c := 0) (d := 2147483647) (iv_ler g7785.1 ivk_0 pa2) (by decide +kernel)) (iv_sub (lo := -1) (hi := 5) (srd_318_106_x hI (Int32.toNatClampNeg a1)) ivk_1 (by decide +kernel))) (by decide +kernel)) (by decide +kernel)) (by decide +kernel)) (iv_w (c := 0) (d := 5) (iv_lel g7788.2 (iv_w (c := 0) (d := 2147483647) (iv_ler g7788.1 ivk_0 pa3) (by decide +kernel)) (iv_w (c := 0) (d := 5) (iv_ler g7785.2 (iv_w (c := 0) (d := 2147483647) (iv_ler g7785.1 ivk_0 pa2) (by decide +kernel)) (iv_sub (lo := -1) (hi := 5) (srd_318_106_x hI (Int32.toNatClampNeg a1)) ivk_1 (by decide +kernel))) (by decide +kernel))) (by decide +kernel)) (by decide +kernel)) (by decide +kernel)), hQ _ _ I7796 (sf_Et (by decide +kernel) (sf_E0 _ _) E7797) (iv_w (c := -2) (d := 200) (iv_e (sf_fr (r := 324) E7797 rfl (by decide +kernel)) (srd_324_112_x hI (Int32.toNatClampNeg (((36 * a1) + (6 * a2)) + a3)))) (by decide +kernel)) ⟩, fun g7803 => ⟨(iv_in (iv_add (lo := 0) (hi := 431) (iv_add (lo := 0) (hi := 426) (iv_mul (lo := 0) (hi := 396) (iv_w (c := 0) (d := 36) ivk_36 (by decide +kernel)) (iv_w (c := 0) (d := 11) (iv_lel g7782.2 (iv_w (c := 0) (d := 2147483647) (iv_ler g7782.1 ivk_0 pa1) (by decide +kernel)) (iv_sub (lo := -1) (hi := 11) (srd_225_105_1 hI) ivk_1 (by decide +kernel))) (by decide +kernel)) (by decide +kernel)) (iv_mul (lo := 0) (hi := 30) (iv_w (c := 0) (d := 6) ivk_6 (by decide +kernel)) (iv_w (c := 0) (d := 5) (iv_lel g7785.2 (iv_w (c := 0) (d := 2147483647) (iv_ler g7785.1 ivk_0 pa2) (by decide +kernel)) (iv_sub (lo := -1) (hi := 5) (srd_318_106_x hI (Int32.toNatClampNeg a1)) ivk_1 (by decide +kernel))) (by decide +kernel)) (by decide +kernel)) (by decide +kernel)) (iv_w (c := 0) (d := 5) (iv_lel g7788.2 (iv_w (c := 0) (d := 2147483647) (iv_ler g7788.1 ivk_0 pa3) (by decide +kernel)) (iv_w (c := 0) (d := 5) (iv_ler g7785.2 (iv_w (c := 0) (d := 2147483647) (iv_ler g7785.1 ivk_0 pa2) (by decide +kernel)) (iv_sub (lo := -1) (hi := 5) (srd_318_106_x hI (Int32.toNatClampNeg a1)) ivk_1 (by decide +kernel))) (by decide +kernel))) (by decide +kernel)) (by decide +kernel)) (by decide +kernel)), hQ _ _ I7796 (sf_Et (by decide +kernel) (sf_E0 _ _) E7797) (iv_w (c := -2) (d := 200) (iv_e (sf_fr (r := 323) E7797 rfl (by decide +kernel)) (srd_323_111_x hI (Int32.toNatClampNeg (((36 * a1) + (6 * a2)) + a3)))) (by decide +kernel)) ⟩⟩, fun g7804 => ⟨(iv_in (iv_add (lo := 0) (hi := 431) (iv_add (lo := 0) (hi := 426) (iv_mul (lo := 0) (hi := 396) (iv_w (c := 0) (d := 36) ivk_36 (by decide +kernel)) (iv_w (c := 0) (d := 11) (iv_lel g7782.2 (iv_w (c := 0) (d := 2147483647) (iv_ler g7782.1 ivk_0 pa1) (by decide +kernel)) (iv_sub (lo := -1) (hi := 11) (srd_225_105_1 hI) ivk_1 (by decide +kernel))) (by decide +kernel)) (by decide +kernel)) (iv_mul (lo := 0) (hi := 30) (iv_w (c := 0) (d := 6) ivk_6 (by decide +kernel)) (iv_w (c := 0) (d := 5) (iv_lel g7785.2 (iv_w (c := 0) (d := 2147483647) (iv_ler g7785.1 ivk_0 pa2) (by decide +kernel)) (iv_sub (lo := -1) (hi := 5) (srd_318_106_x hI (Int32.toNatClampNeg a1)) ivk_1 (by decide +kernel))) (by decide +kernel)) (by decide +kernel)) (by decide +kernel)) (iv_w (c := 0) (d := 5) (iv_lel g7788.2 (iv_w (c := 0) (d := 2147483647) (iv_ler g7788.1 ivk_0 pa3) (by decide +kernel)) (iv_w (c := 0) (d := 5) (iv_ler g7785.2 (iv_w (c := 0) (d := 2147483647) (iv_ler g7785.1 ivk_0 pa2) (by decide +kernel)) (iv_sub (lo := -1) (hi := 5) (srd_318_106_x hI (Int32.toNatClampNeg a1)) ivk_1 (by decide +kernel))) (by decide +kernel))) (by decide +kernel)) (by decide +kernel)) (by decide +kernel)), hQ _ _ I7796 (sf_Et (by decide +kernel) (sf_E0 _ _) E7797) (iv_w (c := -2) (d := 200) (iv_sub (lo := -1) (hi := 200) (iv_e (sf_fr (r := 325) E7797 rfl (by decide +kernel)) (srd_325_113_x hI (Int32.toNatClampNeg (((36 * a1) + (6 * a2)) + a3)))) ivk_1 (by decide +kernel)) (by decide +kernel)) ⟩⟩)), fun g7805 => hQ _ _ I7796 (sf_Et (by decide +kernel) (sf_E0 _ _) E7797) (iv_w (c := -2) (d := 200) ivk_m2 (by decide +kernel)) ⟩))⟩, fun g7806 => (iv_no (iv_eql (Decidable.not_not.mp g7806) ivk_1 ivk_0) (by decide +kernel)).elim⟩) (fun g7807 => hx_i ⟨fun g7808 => (iv_no (iv_nel g7808 ivk_0 ivk_0) (by decide +kernel)).elim, fun g7809 => hQ _ _ hI (sf_E0 _ _) (iv_w (c := -2) (d := 200) ivk_m1 (by decide +kernel)) ⟩))⟩⟩) (fun g7810 => hx_i ⟨Or.inl rfl, hx_i ⟨fun g7811 => hQ _ _ hI (sf_E0 _ _) (iv_w (c := -2) (d := 200) ivk_m1 (by decide +kernel)) , fun g7812 => (iv_no (iv_nel g7812 ivk_0 ivk_0) (by decide +kernel)).elim⟩⟩))⟩)⟩⟩) (fun g7813 => hx_i ⟨Or.inl rfl, hx_i ⟨fun g7814 => hQ _ _ hI (sf_E0 _ _) (iv_w (c := -2) (d := 200) ivk_m1 (by decide +kernel)) , fun g7815 => (iv_no (iv_nel g7815 ivk_0 ivk_0) (by decide +kernel)).elim⟩⟩))⟩)⟩⟩) (fun g7816 => hx_i ⟨Or.inl rfl, hx_i ⟨fun g7817 => hQ _ _ hI (sf_E0 _ _) (iv_w (c := -2) (d := 200) ivk_m1 (by decide +kernel)) , fun g7818 => (iv_no (iv_nel g7818 ivk_0 ivk_0) (by decide +kernel)).elim⟩⟩)))
