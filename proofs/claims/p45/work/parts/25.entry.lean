/-! ===== the law's first sixteen bytes ===== -/
set_option maxRecDepth 100000 in
theorem sgL_0 {E : mx_Ev} {Q : Option mx_V → mx_H → Prop}
    (H : ∃ x, mx_pos x = 0 ∧ mx_va x ∧ mx_lo x = (11, 14) ∧ (mx_C0 E (mx_fn false) 999 101 [.inr x] (mx_nw sp_he x) (fun v1 h2 => v1 = none → (∃ y, mx_pos y = h2.1 ∧ mx_va y ∧ mx_lo y = (12, 94) ∧ (mx_C0 E (mx_fn false) 999 172 [.inr y] (mx_nw h2 y) (fun v3 h4 => v3 = none → (mx_T0 E (mx_fn false) 1000 586 6306 0 18 [(0, .inl (.float 2)), (1, .inr x), (2, .inr y), (3, .inl (.int 0))] [] h4 Q))))))) :
    mx_T0 E (mx_fn false) 1000 753 22667 0 0 [(0, .inl (.float 2))] [] sp_he Q := mx_wp_sound0 (cuts := [(18, [0, 1, 2, 3])]) mx_ok0 30 H
theorem sp_entry {E : mx_Ev} {Q : Option mx_V → mx_H → Prop} (H : mx_T0 E (mx_fn true) 1000 586 6306 0 18 [(0, .inl (.float 2)), (1, .inr (.inl 0)), (2, .inr (.inl 105)), (3, .inl (.int 0))] [] sp_h0 Q) :
    mx_T0 E (mx_fn false) 1000 753 22667 0 0 [(0, .inl (.float 2))] [] sp_he Q := by
  refine sgL_0 ⟨.inl 0, rfl, Or.inl (by decide), rfl, ?_⟩
  refine mx_ex_sound 3000 sp_x1_s ?_
  intro _
  refine ⟨.inl 105, sp_h1_n.symm, Or.inr (Or.inr (Or.inr (by decide))), rfl, ?_⟩
  refine mx_ex_sound 3000 sp_x2_s ?_
  intro _
  exact mx_T0.enter sp_h0_fi H
/-! ===== a call on a new object: helpers ===== -/
theorem hx_i {a : Int32} {P : Int32 → Prop} (h : P a) : ∀ x, (some (.inl (.int a)) : Option mx_V) = some (.inl (.int x)) → P x := by
  intro x hx
  cases hx
  exact h
theorem hx_l {a : Int64} {P : Int64 → Prop} (h : P a) : ∀ x, (some (.inl (.long a)) : Option mx_V) = some (.inl (.long x)) → P x := by
  intro x hx
  cases hx
  exact h
theorem hx_n {P : Prop} (h : P) : (none : Option mx_V) = none → P := fun _ => h
theorem hx_0 {A : Nat → Prop} {B : Prop} {C : mx_A → Prop} (h : B) : (∀ j, (some (.inl .null) : Option mx_V) = some (.inr (.inr (j, 0))) → A j) ∧ ((some (.inl .null) : Option mx_V) = some (.inl .null) → B) ∧ (∀ b, (some (.inl .null) : Option mx_V) = some (.inr b) → C b) :=
  ⟨fun j hj => (by cases hj), fun _ => h, fun b hb => (by cases hb)⟩
theorem cl6 {a : Int32} (h : 0 ≤ a ∧ a ≤ 5) : a.toNatClampNeg < 6 := by
  have h1 : (0 : Int32).toInt ≤ a.toInt := Int32.le_iff_toInt_le.mp h.1
  have h2 : a.toInt ≤ (5 : Int32).toInt := Int32.le_iff_toInt_le.mp h.2
  have e0 : (0 : Int32).toInt = 0 := rfl
  have e5 : (5 : Int32).toInt = 5 := rfl
  show a.toInt.toNat < 6
  omega
theorem cl4 {a : Int32} (h : 0 ≤ a ∧ a ≤ 3) : a.toNatClampNeg < 4 := by
  have h1 : (0 : Int32).toInt ≤ a.toInt := Int32.le_iff_toInt_le.mp h.1
  have h2 : a.toInt ≤ (3 : Int32).toInt := Int32.le_iff_toInt_le.mp h.2
  have e0 : (0 : Int32).toInt = 0 := rfl
  have e5 : (3 : Int32).toInt = 3 := rfl
  show a.toInt.toNat < 4
  omega
theorem vi6 {a : Int32} (h : 0 ≤ a ∧ a ≤ 5) : vp_in a 6 := sp_vin h.1 (cl6 h)
theorem vi4 {a : Int32} (h : 0 ≤ a ∧ a ≤ 3) : vp_in a 4 := sp_vin h.1 (cl4 h)
/-- a cell of the class's -/
def sp_cl : mx_A → Bool
  | .inl k => Nat.blt k 105
  | .inr _ => true
theorem sp_cl_ne {a : mx_A} {k : Nat} (ha : sp_cl a = true) (hk : 105 ≤ k) : (.inl k : mx_A) ≠ a := by
  rintro rfl
  have := Nat.blt_eq.mp ha
  omega
theorem sp_up_ne {α : Type} {f : mx_A → Nat → α} {a b : mx_A} {i j : Nat} {v : α} (h : b ≠ a) : mx_up f a i v b j = f b j := if_neg (fun q => h q.1)
theorem sp_FM_ext {h h' : mx_H} (e : ∀ k j, 105 ≤ k → h'.2.1 (.inl k) j = h.2.1 (.inl k) j) (hM : sp_FM h) : sp_FM h' := by
  unfold sp_FM at *
  simp only [e 105 _ (by decide), e 149 _ (by decide), e 150 _ (by decide), e 163 _ (by decide)]
  exact hM
theorem sp_FM_uI {h : mx_H} {a : mx_A} {i : Nat} {v : Int32} (ha : sp_cl a = true) (hM : sp_FM h) : sp_FM (mx_uI h a i v) := sp_FM_ext (fun _ _ hk => sp_up_ne (sp_cl_ne ha hk)) hM
theorem sp_FM_uL {h : mx_H} {a : mx_A} {i : Nat} {v : Int64} (hM : sp_FM h) : sp_FM (mx_uL h a i v) := hM
theorem sp_FM_uR {h : mx_H} {a : mx_A} {i : Nat} {v : Option mx_A} (hM : sp_FM h) : sp_FM (mx_uR h a i v) := hM
theorem sp_e0 {a : Int32} : ¬ (0 ≤ a ∧ a ≤ (0 : Int32) - 1) := fun h => absurd (Int32.le_trans h.1 h.2) (by decide)
section FZ
variable {E : mx_Ev} {d : Nat} {h : mx_H} {Q : Option mx_V → mx_H → Prop}
theorem sp_wi {a0 a1 a2 : Int32} (h1 : (a1 ≤ a0 ∧ a0 ≤ a2) → Q (some (.inl (.int 1))) h) (h0 : ¬ (a1 ≤ a0 ∧ a0 ≤ a2) → Q (some (.inl (.int 0))) h) : mx_C E (mx_fn true) d 157 [.inl (.int a0), .inl (.int a1), .inl (.int a2)] h Q :=
  sg157_0 ⟨fun g1 => ⟨Or.inl rfl, h0 (fun q => absurd g1 (Int32.not_lt.mpr q.1))⟩, fun g1 => ⟨fun g2 => ⟨Or.inl rfl, h0 (fun q => absurd g2 (Int32.not_lt.mpr q.2))⟩, fun g2 => ⟨Or.inr rfl, h1 ⟨Int32.not_lt.mp g1, Int32.not_lt.mp g2⟩⟩⟩⟩
theorem sp_ini {a0 a1 a2 : Int32} (h1 : (a1 ≤ a0 ∧ a0 ≤ a2) → Q (some (.inl (.int 1))) h) (h0 : ¬ (a1 ≤ a0 ∧ a0 ≤ a2) → Q (some (.inl (.int 0))) h) : mx_C E (mx_fn true) d 173 [.inl (.int a0), .inl (.int a1), .inl (.int a2)] h Q :=
  sg173_0 ⟨fun g1 => ⟨Or.inl rfl, h0 (fun q => absurd g1 (Int32.not_lt.mpr q.1))⟩, fun g1 => ⟨fun g2 => ⟨Or.inl rfl, h0 (fun q => absurd g2 (Int32.not_lt.mpr q.2))⟩, fun g2 => ⟨Or.inr rfl, h1 ⟨Int32.not_lt.mp g1, Int32.not_lt.mp g2⟩⟩⟩⟩
theorem fz_shapeAt {a1 : Int32} (h0 : h.2.1 (.inl 0) 2 = 0) (hQ : Q (some (.inl .null)) h) : mx_C E (mx_fn true) (d + 1) 166 [.inr (.inl 0), .inl (.int a1)] h Q := by
  refine sg166_0 (sp_wi (fun g => ?_) (fun _ => ?_))
  · rw [h0] at g
    exact absurd g sp_e0
  · exact hx_i ⟨fun _ => hQ, fun g => absurd rfl g⟩
theorem fz_planned (h0 : h.2.1 (.inl 60) 1 = 0) (hQ : Q (some (.inl .null)) h) : mx_C E (mx_fn true) (d + 1) 167 [.inr (.inl 0)] h Q :=
  sg167_0 ⟨fun _ => hQ, fun g => absurd (by rw [h0]; decide) g⟩
theorem fz_isBody {a1 : Int32} (h0 : h.2.1 (.inl 90) 0 = 0) (hQ : Q (some (.inl (.int 0))) h) : mx_C E (mx_fn true) (d + 1) 163 [.inr (.inl 0), .inl (.int a1)] h Q := by
  refine sg163_0 (sp_wi (fun g => ?_) (fun _ => ?_))
  · rw [h0] at g
    exact absurd g sp_e0
  · exact hx_i ⟨Or.inl rfl, hQ⟩
theorem fz_isShape {a1 : Int32} (h0 : h.2.1 (.inl 105) 1 = 0) (hQ : Q (some (.inl (.int 0))) h) : mx_C E (mx_fn true) (d + 1) 177 [.inr (.inl 105), .inl (.int a1)] h Q := by
  refine sg177_0 (sp_ini (fun g => ?_) (fun _ => ?_))
  · rw [h0] at g
    exact absurd g sp_e0
  · exact hx_i ⟨Or.inl rfl, hQ⟩
theorem fz_isBodyM {a1 : Int32} (h0 : h.2.1 (.inl 105) 12 = 0) (hQ : Q (some (.inl (.int 0))) h) : mx_C E (mx_fn true) (d + 1) 283 [.inr (.inl 105), .inl (.int a1)] h Q := by
  refine sg283_0 (sp_ini (fun g => ?_) (fun _ => ?_))
  · rw [h0] at g
    exact absurd g sp_e0
  · exact hx_i ⟨Or.inl rfl, hQ⟩
theorem fz_was {a1 : Int32} (h0 : h.2.1 (.inl 71) 2 = 0) (hQ : Q (some (.inl (.int 0))) h) : mx_C E (mx_fn true) d 7 [.inr (.inl 71), .inl (.int a1)] h Q :=
  sg7_0 ⟨fun _ => ⟨Or.inl rfl, hQ⟩, fun g => absurd (by rw [h0]; decide) g⟩
/-- a predicate of the class by within -/
theorem fz_p {n : Nat} {a lo hi : Int32} {l : List mx_V} (sg : (mx_C E (mx_fn true) d 157 [.inl (.int a), .inl (.int lo), .inl (.int hi)] h (fun v1 h2 => ∀ x3, v1 = some (.inl (.int x3)) → (((x3 : Int32) = 0 ∨ (x3 : Int32) = 1) ∧ (Q (some (.inl (.int x3))) h2)))) → mx_C E (mx_fn true) (d + 1) n l h Q)
    (h1 : (lo ≤ a ∧ a ≤ hi) → Q (some (.inl (.int 1))) h) (h0 : ¬ (lo ≤ a ∧ a ≤ hi) → Q (some (.inl (.int 0))) h) : mx_C E (mx_fn true) (d + 1) n l h Q :=
  sg (sp_wi (fun g => hx_i ⟨Or.inr rfl, h1 g⟩) (fun g => hx_i ⟨Or.inl rfl, h0 g⟩))
theorem fz_q {n : Nat} {a lo hi : Int32} {l : List mx_V} (sg : (mx_C E (mx_fn true) d 173 [.inl (.int a), .inl (.int lo), .inl (.int hi)] h (fun v1 h2 => ∀ x3, v1 = some (.inl (.int x3)) → (((x3 : Int32) = 0 ∨ (x3 : Int32) = 1) ∧ (Q (some (.inl (.int x3))) h2)))) → mx_C E (mx_fn true) (d + 1) n l h Q)
    (h1 : (lo ≤ a ∧ a ≤ hi) → Q (some (.inl (.int 1))) h) (h0 : ¬ (lo ≤ a ∧ a ≤ hi) → Q (some (.inl (.int 0))) h) : mx_C E (mx_fn true) (d + 1) n l h Q :=
  sg (sp_ini (fun g => hx_i ⟨Or.inr rfl, h1 g⟩) (fun g => hx_i ⟨Or.inl rfl, h0 g⟩))
end FZ
/-! ===== intervals of ints ===== -/
def sf_iv (lo hi : Int) (x : Int32) : Prop := lo ≤ x.toInt ∧ x.toInt ≤ hi
theorem iv_rng (x : Int32) : sf_iv (-2147483648) 2147483647 x := ⟨Int32.le_toInt x, Int32.toInt_le x⟩
theorem iv_bm {z : Int} (h1 : -2147483648 ≤ z) (h2 : z ≤ 2147483647) : z.bmod (2 ^ 32) = z := Int.bmod_eq_of_le (by omega) (by omega)
theorem iv_k {n : Int} {x : Int32} (h : x.toInt = n) : sf_iv n n x := ⟨Int.le_of_eq h.symm, Int.le_of_eq h⟩
theorem iv_w {a b c d : Int} {x : Int32} (h : sf_iv a b x) (hc : (decide (c ≤ a) && decide (b ≤ d)) = true) : sf_iv c d x := by
  rw [Bool.and_eq_true, decide_eq_true_eq, decide_eq_true_eq] at hc
  exact ⟨Int.le_trans hc.1 h.1, Int.le_trans h.2 hc.2⟩
def iv_cb (a b lo hi : Int) : Bool := decide (lo ≤ a) && (decide (b ≤ hi) && (decide (-2147483648 ≤ a) && decide (b ≤ 2147483647)))
theorem iv_cb_s {a b lo hi : Int} (h : iv_cb a b lo hi = true) : lo ≤ a ∧ b ≤ hi ∧ -2147483648 ≤ a ∧ b ≤ 2147483647 := by
  simpa [iv_cb] using h
theorem iv_add {a b c d lo hi : Int} {x y : Int32} (hx : sf_iv a b x) (hy : sf_iv c d y) (hc : iv_cb (a + c) (b + d) lo hi = true) : sf_iv lo hi (x + y) := by
  obtain ⟨h1, h2, h3, h4⟩ := iv_cb_s hc
  obtain ⟨x1, x2⟩ := hx
  obtain ⟨y1, y2⟩ := hy
  have e : (x + y).toInt = x.toInt + y.toInt := by rw [Int32.toInt_add, iv_bm (by omega) (by omega)]
  exact ⟨by omega, by omega⟩
theorem iv_sub {a b c d lo hi : Int} {x y : Int32} (hx : sf_iv a b x) (hy : sf_iv c d y) (hc : iv_cb (a - d) (b - c) lo hi = true) : sf_iv lo hi (x - y) := by
  obtain ⟨h1, h2, h3, h4⟩ := iv_cb_s hc
  obtain ⟨x1, x2⟩ := hx
  obtain ⟨y1, y2⟩ := hy
  have e : (x - y).toInt = x.toInt - y.toInt := by rw [Int32.toInt_sub, iv_bm (by omega) (by omega)]
  exact ⟨by omega, by omega⟩
/-- a product of a number that isn't below 0 -/
theorem iv_mul {b d lo hi : Int} {x y : Int32} (hx : sf_iv 0 b x) (hy : sf_iv 0 d y) (hc : iv_cb 0 (b * d) lo hi = true) : sf_iv lo hi (x * y) := by
  obtain ⟨h1, h2, h3, h4⟩ := iv_cb_s hc
  obtain ⟨x1, x2⟩ := hx
  obtain ⟨y1, y2⟩ := hy
  have p0 : 0 ≤ x.toInt * y.toInt := Int.mul_nonneg x1 y1
  have p1 : x.toInt * y.toInt ≤ b * d := Int.mul_le_mul x2 y2 y1 (Int.le_trans x1 x2)
  have e : (x * y).toInt = x.toInt * y.toInt := by rw [Int32.toInt_mul, iv_bm (by omega) (by omega)]
  exact ⟨by omega, by omega⟩
theorem iv_neg {a b lo hi : Int} {x : Int32} (hx : sf_iv a b x) (hc : iv_cb (-b) (-a) lo hi = true) : sf_iv lo hi (-x) := by
  obtain ⟨h1, h2, h3, h4⟩ := iv_cb_s hc
  obtain ⟨x1, x2⟩ := hx
  have e : (-x).toInt = -x.toInt := by rw [Int32.toInt_neg, iv_bm (by omega) (by omega)]
  exact ⟨by omega, by omega⟩
/-- a quotient of a number that isn't below 0 by one above 0 -/
theorem iv_div {a b k lo hi : Int} {x y : Int32} (hx : sf_iv a b x) (hy : sf_iv k k y) (hc : (decide (0 ≤ a) && (decide (0 < k) && (decide (lo ≤ a / k) && decide (b / k ≤ hi)))) = true) : sf_iv lo hi (x / y) := by
  simp only [Bool.and_eq_true, decide_eq_true_eq] at hc
  obtain ⟨h1, h2, h3, h4⟩ := hc
  obtain ⟨x1, x2⟩ := hx
  obtain ⟨y1, y2⟩ := hy
  have ey : y.toInt = k := by omega
  have r := (iv_rng x).2
  have q0 : 0 ≤ x.toInt / k := Int.ediv_nonneg (by omega) (by omega)
  have q1 : x.toInt / k ≤ x.toInt := Int.ediv_le_self _ (by omega)
  have e : (x / y).toInt = x.toInt / k := by rw [Int32.toInt_div, ey, Int.tdiv_eq_ediv_of_nonneg (by omega), iv_bm (by omega) (by omega)]
  have m1 : a / k ≤ x.toInt / k := Int.ediv_le_ediv h2 x1
  have m2 : x.toInt / k ≤ b / k := Int.ediv_le_ediv h2 x2
  exact ⟨by omega, by omega⟩
/-- a rest of a number that isn't below 0 -/
theorem iv_rem {a b k lo hi : Int} {x y : Int32} (hx : sf_iv a b x) (hy : sf_iv k k y) (hc : (decide (0 ≤ a) && (decide (0 < k) && (decide (lo ≤ 0) && decide (k - 1 ≤ hi)))) = true) : sf_iv lo hi (x - x / y * y) := by
  simp only [Bool.and_eq_true, decide_eq_true_eq] at hc
  obtain ⟨h1, h2, h3, h4⟩ := hc
  obtain ⟨x1, x2⟩ := hx
  obtain ⟨y1, y2⟩ := hy
  have ey : y.toInt = k := by omega
  have r := (iv_rng x).2
  have ry := (iv_rng y).2
  have q0 : 0 ≤ x.toInt / k := Int.ediv_nonneg (by omega) (by omega)
  have q1 : x.toInt / k ≤ x.toInt := Int.ediv_le_self _ (by omega)
  have e : (x / y).toInt = x.toInt / k := by rw [Int32.toInt_div, ey, Int.tdiv_eq_ediv_of_nonneg (by omega), iv_bm (by omega) (by omega)]
  have p0 : 0 ≤ x.toInt / k * k := Int.mul_nonneg q0 (by omega)
  have p1 : x.toInt / k * k ≤ x.toInt := Int.ediv_mul_le _ (by omega)
  have e2 : (x / y * y).toInt = x.toInt / k * k := by rw [Int32.toInt_mul, e, ey, iv_bm (by omega) (by omega)]
  have e3 : (x - x / y * y).toInt = x.toInt - x.toInt / k * k := by rw [Int32.toInt_sub, e2, iv_bm (by omega) (by omega)]
  have m : x.toInt - x.toInt / k * k = x.toInt % k := by
    have := Int.mul_ediv_add_emod x.toInt k
    rw [Int.mul_comm] at this
    omega
  have m0 := Int.emod_nonneg x.toInt (show k ≠ 0 by omega)
  have m1 := Int.emod_lt_of_pos x.toInt h2
  exact ⟨by omega, by omega⟩
theorem iv_ite {a b c d lo hi : Int} {p : Prop} [Decidable p] {x y : Int32} (hx : p → sf_iv a b x) (hy : ¬ p → sf_iv c d y) (hc : (decide (lo ≤ a) && (decide (b ≤ hi) && (decide (lo ≤ c) && decide (d ≤ hi)))) = true) : sf_iv lo hi (if p then x else y) := by
  simp only [Bool.and_eq_true, decide_eq_true_eq] at hc
  obtain ⟨h1, h2, h3, h4⟩ := hc
  by_cases hp : p
  · rw [if_pos hp]
    exact ⟨Int.le_trans h1 (hx hp).1, Int.le_trans (hx hp).2 h2⟩
  · rw [if_neg hp]
    exact ⟨Int.le_trans h3 (hy hp).1, Int.le_trans (hy hp).2 h4⟩
/-! what a comparison tells -/
theorem iv_ltl {a b c d : Int} {x y : Int32} (g : x < y) (hx : sf_iv a b x) (hy : sf_iv c d y) : sf_iv a (min b (d - 1)) x := by
  have := Int32.lt_iff_toInt_lt.mp g
  obtain ⟨x1, x2⟩ := hx
  obtain ⟨y1, y2⟩ := hy
  exact ⟨x1, by omega⟩
theorem iv_ltr {a b c d : Int} {x y : Int32} (g : x < y) (hx : sf_iv a b x) (hy : sf_iv c d y) : sf_iv (max c (a + 1)) d y := by
  have := Int32.lt_iff_toInt_lt.mp g
  obtain ⟨x1, x2⟩ := hx
  obtain ⟨y1, y2⟩ := hy
  exact ⟨by omega, y2⟩
theorem iv_lel {a b c d : Int} {x y : Int32} (g : x ≤ y) (hx : sf_iv a b x) (hy : sf_iv c d y) : sf_iv a (min b d) x := by
  have := Int32.le_iff_toInt_le.mp g
  obtain ⟨x1, x2⟩ := hx
  obtain ⟨y1, y2⟩ := hy
  exact ⟨x1, by omega⟩
theorem iv_ler {a b c d : Int} {x y : Int32} (g : x ≤ y) (hx : sf_iv a b x) (hy : sf_iv c d y) : sf_iv (max c a) d y := by
  have := Int32.le_iff_toInt_le.mp g
  obtain ⟨x1, x2⟩ := hx
  obtain ⟨y1, y2⟩ := hy
  exact ⟨by omega, y2⟩
theorem iv_eql {a b c d : Int} {x y : Int32} (g : x = y) (hx : sf_iv a b x) (hy : sf_iv c d y) : sf_iv (max a c) (min b d) x := by
  subst g
  obtain ⟨x1, x2⟩ := hx
  obtain ⟨y1, y2⟩ := hy
  exact ⟨by omega, by omega⟩
/-- not the lowest, not the greatest -/
theorem iv_nel {a b k : Int} {x y : Int32} (g : ¬ x = y) (hx : sf_iv a b x) (hy : sf_iv k k y) : sf_iv (if a = k then a + 1 else a) (if b = k then b - 1 else b) x := by
  have g2 : x.toInt ≠ y.toInt := fun e => g (Int32.toInt_inj.mp e)
  obtain ⟨x1, x2⟩ := hx
  obtain ⟨y1, y2⟩ := hy
  exact ⟨by split <;> omega, by split <;> omega⟩
theorem iv_no {a b : Int} {x : Int32} (h : sf_iv a b x) (hc : decide (b < a) = true) : False := by
  rw [decide_eq_true_eq] at hc
  obtain ⟨x1, x2⟩ := h
  omega
theorem iv_in {a b : Int} {n : Nat} {x : Int32} (h : sf_iv a b x) (hc : (decide (0 ≤ a) && decide (b < n)) = true) : vp_in x n := by
  simp only [Bool.and_eq_true, decide_eq_true_eq] at hc
  obtain ⟨x1, x2⟩ := h
  refine sp_vin (Int32.le_iff_toInt_le.mpr ?_) ?_
  · show (0 : Int32).toInt ≤ _
    rw [show (0 : Int32).toInt = 0 from rfl]
    omega
  · show x.toInt.toNat < n
    omega
theorem iv_clamp {a b : Int} {n : Nat} {x : Int32} (h : sf_iv a b x) (hc : (decide (0 ≤ a) && decide (b < n)) = true) : x.toNatClampNeg < n := by
  simp only [Bool.and_eq_true, decide_eq_true_eq] at hc
  obtain ⟨x1, x2⟩ := h
  show x.toInt.toNat < n
  omega
theorem iv_ne0 {a b : Int} {x : Int32} (h : sf_iv a b x) (hc : (decide (0 < a) || decide (b < 0)) = true) : ¬ x = 0 := by
  simp only [Bool.or_eq_true, decide_eq_true_eq] at hc
  obtain ⟨x1, x2⟩ := h
  rintro rfl
  rw [show (0 : Int32).toInt = 0 from rfl] at x1 x2
  omega
theorem iv_bool {x : Int32} (h : sf_iv 0 1 x) : x = 0 ∨ x = 1 := by
  obtain ⟨x1, x2⟩ := h
  rcases (show x.toInt = 0 ∨ x.toInt = 1 by omega) with q | q
  · exact Or.inl (Int32.toInt_inj.mp q)
  · exact Or.inr (Int32.toInt_inj.mp q)
/-- a loop that counts: what is left -/
theorem iv_up {lo hi : Int} {n : Nat} {x : Int32} (hm : (2147483647 - x.toInt).toNat < n + 1) (p : sf_iv lo hi x) (hc : decide (hi < 2147483647) = true) : (2147483647 - (x + 1).toInt).toNat < n := by
  rw [decide_eq_true_eq] at hc
  have r := (iv_rng x).1
  obtain ⟨x1, x2⟩ := p
  have e : (x + 1).toInt = x.toInt + 1 := by rw [Int32.toInt_add, show (1 : Int32).toInt = 1 from rfl, iv_bm (by omega) (by omega)]
  rw [e]
  omega
theorem iv_dn {lo hi : Int} {n : Nat} {x : Int32} (hm : (x.toInt + 2147483648).toNat < n + 1) (p : sf_iv lo hi x) (hc : decide (-2147483648 < lo) = true) : ((x + (-1)).toInt + 2147483648).toNat < n := by
  rw [decide_eq_true_eq] at hc
  have r := (iv_rng x).2
  obtain ⟨x1, x2⟩ := p
  have e : (x + (-1)).toInt = x.toInt + (-1) := by rw [Int32.toInt_add, show (-1 : Int32).toInt = -1 from rfl, iv_bm (by omega) (by omega)]
  rw [e]
  omega
theorem iv_ua {a b lo hi l h k : Int} {u y : Int32} (pu : sf_iv a b u) (p : sf_iv l h (u + y)) (hy : y.toInt = k) (hc : (decide (-2147483648 ≤ a + k) && (decide (b + k ≤ 2147483647) && (decide (lo ≤ max a (l - k)) && decide (min b (h - k) ≤ hi)))) = true) : sf_iv lo hi u := by
  simp only [Bool.and_eq_true, decide_eq_true_eq] at hc
  obtain ⟨h1, h2, h3, h4⟩ := hc
  obtain ⟨u1, u2⟩ := pu
  obtain ⟨p1, p2⟩ := p
  have e : (u + y).toInt = u.toInt + y.toInt := by rw [Int32.toInt_add, iv_bm (by omega) (by omega)]
  exact ⟨by omega, by omega⟩
theorem iv_and {m : Int} {x y : Int32} (hy : y.toInt = m) (hm : decide (0 ≤ m) = true) : sf_iv 0 m (x &&& y) := by
  rw [decide_eq_true_eq] at hm
  have e1 : (x &&& y).toBitVec.toNat ≤ y.toBitVec.toNat := by
    rw [Int32.toBitVec_and, BitVec.toNat_and]
    exact Nat.and_le_right
  have ey : y.toInt = (y.toBitVec.toNat : Int) := by
    have h0 : y.toInt = y.toBitVec.toInt := rfl
    rw [h0, BitVec.toInt_eq_toNat_cond] at hy
    rw [h0, BitVec.toInt_eq_toNat_cond]
    split at hy
    · rw [if_pos (by assumption)]
    · have := y.toBitVec.isLt
      omega
  have hl : 2 * y.toBitVec.toNat < 2 ^ 32 := by
    have := (iv_rng y).2
    omega
  have ex : (x &&& y).toInt = ((x &&& y).toBitVec.toNat : Int) := by
    show (x &&& y).toBitVec.toInt = _
    rw [BitVec.toInt_eq_toNat_cond, if_pos (by omega)]
  exact ⟨by omega, by omega⟩
theorem iv_max {a b c d lo hi : Int} {x y : Int32} (hx : sf_iv a b x) (hy : sf_iv c d y) (hc : (decide (lo ≤ max a c) && decide (max b d ≤ hi)) = true) : sf_iv lo hi (if x < y then y else x) := by
  simp only [Bool.and_eq_true, decide_eq_true_eq] at hc
  obtain ⟨x1, x2⟩ := hx
  obtain ⟨y1, y2⟩ := hy
  split
  · next g =>
    have := Int32.lt_iff_toInt_lt.mp g
    exact ⟨by omega, by omega⟩
  · next g =>
    have := Int32.le_iff_toInt_le.mp (Int32.not_lt.mp g)
    exact ⟨by omega, by omega⟩
theorem iv_min {a b c d lo hi : Int} {x y : Int32} (hx : sf_iv a b x) (hy : sf_iv c d y) (hc : (decide (lo ≤ min a c) && decide (min b d ≤ hi)) = true) : sf_iv lo hi (if y < x then y else x) := by
  simp only [Bool.and_eq_true, decide_eq_true_eq] at hc
  obtain ⟨x1, x2⟩ := hx
  obtain ⟨y1, y2⟩ := hy
  split
  · next g =>
    have := Int32.lt_iff_toInt_lt.mp g
    exact ⟨by omega, by omega⟩
  · next g =>
    have := Int32.le_iff_toInt_le.mp (Int32.not_lt.mp g)
    exact ⟨by omega, by omega⟩
theorem iv_abs {a b lo hi : Int} {x : Int32} (hx : sf_iv a b x) (hc : (decide (-2147483648 < a) && (decide (lo ≤ 0) && (decide (b ≤ hi) && decide (-a ≤ hi)))) = true) : sf_iv lo hi (if 0 ≤ x then x else 0 - x) := by
  simp only [Bool.and_eq_true, decide_eq_true_eq] at hc
  obtain ⟨x1, x2⟩ := hx
  split
  · next g =>
    have : (0 : Int32).toInt ≤ x.toInt := Int32.le_iff_toInt_le.mp g
    rw [show (0 : Int32).toInt = 0 from rfl] at this
    exact ⟨by omega, by omega⟩
  · next g =>
    have : x.toInt < (0 : Int32).toInt := Int32.lt_iff_toInt_lt.mp (Int32.not_le.mp g)
    rw [show (0 : Int32).toInt = 0 from rfl] at this
    have e : (0 - x).toInt = 0 - x.toInt := by rw [Int32.toInt_sub, show (0 : Int32).toInt = 0 from rfl, iv_bm (by omega) (by omega)]
    exact ⟨by omega, by omega⟩
theorem iv_i2b (x : Int32) : sf_iv (-128) 127 x.toInt8.toInt32 := by
  have h1 := Int8.le_toInt x.toInt8
  have h2 := Int8.toInt_le x.toInt8
  unfold sf_iv
  rw [Int8.toInt_toInt32]
  exact ⟨h1, h2⟩
theorem iv_i2s (x : Int32) : sf_iv (-32768) 32767 x.toInt16.toInt32 := by
  have h1 := Int16.le_toInt x.toInt16
  have h2 := Int16.toInt_le x.toInt16
  unfold sf_iv
  rw [Int16.toInt_toInt32]
  exact ⟨h1, h2⟩
theorem iv_wi {a b c d e f : Int} {x l h : Int32} (hx : sf_iv a b x) (hl : sf_iv c d l) (hh : sf_iv e f h) (hc : (decide (d ≤ a) && decide (b ≤ e)) = true) : l ≤ x ∧ x ≤ h := by
  simp only [Bool.and_eq_true, decide_eq_true_eq] at hc
  obtain ⟨x1, x2⟩ := hx
  obtain ⟨l1, l2⟩ := hl
  obtain ⟨h1, h2⟩ := hh
  exact ⟨Int32.le_iff_toInt_le.mpr (by omega), Int32.le_iff_toInt_le.mpr (by omega)⟩
theorem iv_e {lo hi : Int} {x y : Int32} (e : x = y) (p : sf_iv lo hi y) : sf_iv lo hi x := e ▸ p
theorem iv_o {lo hi : Int} {H : mx_H} {a b : mx_A} {i j : Nat} {v : Int32} (hne : b ≠ a) (p : sf_iv lo hi (H.2.1 b j)) : sf_iv lo hi ((mx_uI H a i v).2.1 b j) := iv_e (sp_up_ne hne) p
theorem iv_s {lo hi : Int} {H : mx_H} {a : mx_A} {i : Nat} {v : Int32} (p : sf_iv lo hi v) : sf_iv lo hi ((mx_uI H a i v).2.1 a i) := iv_e (if_pos ⟨rfl, rfl⟩) p
theorem iv_g {lo hi : Int} {H : mx_H} {a : mx_A} {i j : Nat} {v : Int32} (hj : j ≠ i) (p : sf_iv lo hi (H.2.1 a j)) : sf_iv lo hi ((mx_uI H a i v).2.1 a j) := iv_e (if_neg (fun q => hj q.2)) p
theorem iv_L {lo hi : Int} {H : mx_H} {a b : mx_A} {i j : Nat} {v : Int64} (p : sf_iv lo hi (H.2.1 b j)) : sf_iv lo hi ((mx_uL H a i v).2.1 b j) := p
theorem ne_lr {k : Nat} {q : Nat × Nat} : (.inl k : mx_A) ≠ .inr q := fun e => by cases e
theorem ne_rl {k : Nat} {q : Nat × Nat} : (.inr q : mx_A) ≠ .inl k := fun e => by cases e
theorem ne_oo {j j2 o o2 : Nat} (h : o ≠ o2) : (.inr (j, o) : mx_A) ≠ .inr (j2, o2) := fun e => h (congrArg Prod.snd (Sum.inr.inj e))
theorem hx_s {j : Nat} {A : Nat → Prop} {B : Prop} (h : A j) : (∀ j', (some (.inr (.inr (j, 0))) : Option mx_V) = some (.inr (.inr (j', 0))) → A j') ∧ ((some (.inr (.inr (j, 0))) : Option mx_V) = some (.inl .null) → B) ∧ (∀ b, (some (.inr (.inr (j, 0))) : Option mx_V) = some (.inr b) → ∃ j', b = .inr (j', 0)) :=
  ⟨fun j' e => (by cases e; exact h), fun e => (by cases e), fun b e => (by cases e; exact ⟨j, rfl⟩)⟩
theorem fn98 {t : Nat} (ht : t < 6) : mx_fn true (.inl 98) t = some (.inr (t, 20)) := by
  show (bif Nat.blt t 6 then some (.inr (t, 20)) else none : Option mx_A) = _
  rw [show Nat.blt t 6 = true by simpa using ht]
  rfl
theorem iv_sv0 (E : mx_Ev) (k : Nat) : sf_iv (-1) 4 (mx_sval E 0 k) := by
  show sf_iv (-1) 4 (mx_k0 k)
  unfold mx_k0
  rcases (show k = 0 ∨ k = 1 ∨ k = 2 ∨ k = 3 ∨ k = 4 ∨ k = 5 ∨ 6 ≤ k by omega) with rfl | rfl | rfl | rfl | rfl | rfl | h
  · exact ⟨by decide, by decide⟩
  · exact ⟨by decide, by decide⟩
  · exact ⟨by decide, by decide⟩
  · exact ⟨by decide, by decide⟩
  · exact ⟨by decide, by decide⟩
  · exact ⟨by decide, by decide⟩
  · rw [List.getD_eq_getElem?_getD, List.getElem?_eq_none (by simpa using h)]
    exact ⟨by decide, by decide⟩
theorem iv_sv1 (E : mx_Ev) (k : Nat) : sf_iv 0 61 (mx_sval E 1 k) := by
  show sf_iv 0 61 (mx_k1 k)
  rcases Nat.lt_or_ge k 24 with h | h
  · have q : ∀ k, k < 24 → (0 : Int) ≤ (mx_k1 k).toInt ∧ (mx_k1 k).toInt ≤ 61 := by decide +kernel
    exact q k h
  · unfold mx_k1
    rw [List.getD_eq_getElem?_getD, List.getElem?_eq_none (by simpa using h)]
    exact ⟨by decide, by decide⟩
theorem iv_ne0L {a b : Int} {x : Int32} (h : sf_iv a b x) (hc : (decide (0 < a) || decide (b < 0)) = true) : ¬ x.toInt64 = 0 := fun e => by
  have e2 := congrArg Int64.toInt e
  rw [Int32.toInt_toInt64, show (0 : Int64).toInt = 0 from rfl] at e2
  simp only [Bool.or_eq_true, decide_eq_true_eq] at hc
  obtain ⟨x1, x2⟩ := h
  omega
theorem iv_rem2 {a b c d lo hi : Int} {x y : Int32} (hx : sf_iv a b x) (hy : sf_iv c d y) (hc : (decide (0 ≤ a) && (decide (0 < c) && (decide (lo ≤ 0) && decide (d - 1 ≤ hi)))) = true) : sf_iv lo hi (x - x / y * y) := by
  simp only [Bool.and_eq_true, decide_eq_true_eq] at hc
  obtain ⟨h1, h2, h3, h4⟩ := hc
  obtain ⟨y1, y2⟩ := hy
  exact iv_w (iv_rem (lo := 0) (hi := y.toInt - 1) hx ⟨Int.le_refl _, Int.le_refl _⟩ (by simp only [Bool.and_eq_true, decide_eq_true_eq]; omega)) (by simp only [Bool.and_eq_true, decide_eq_true_eq]; omega)
/-! ===== regions of ints, their bounds, what holds between ints, what a call may write ===== -/
def sf_rgT : List (List Nat) := [[0, 14, 17, 18, 19, 32, 33, 34, 35, 36, 37, 38, 39, 40, 52, 53], [54, 55, 56, 57, 58, 59, 60, 61, 62, 74, 75, 76, 77, 78, 79, 80], [81, 82, 83, 84, 90, 91, 92, 104, 105, 106, 107, 108, 109, 110, 111, 112], [113, 114, 126, 127, 128, 129, 130, 131, 132, 133, 134, 135, 136, 149, 150, 151], [152, 153, 154, 155, 156, 162, 163, 164, 175, 176, 177, 178, 179, 180, 181, 182], [183, 187, 188, 189, 190, 197, 198, 199, 200, 201, 202, 207, 208, 209, 210, 214], [215, 216, 217, 218, 219, 220, 221, 222, 223, 224, 318, 319, 320, 321, 322, 323], [324, 325, 326, 327, 328, 329, 330, 331, 332, 333, 334, 335, 336, 337, 338, 339], [340, 341, 342, 343, 344, 345, 346, 347, 348, 349, 350, 351, 352, 353, 354, 355], [356, 357, 358, 359, 360, 361, 362, 363, 364, 365, 366, 367, 368, 369, 370, 371], [372, 373, 374, 375, 376, 377, 378]]
def sf_rg : mx_A → Nat → Nat
  | .inl n, i => bif Nat.blt (mx_lo (.inl n)).1 100 then (sf_rgT.getD (n / 16) []).getD (n % 16) 0 + i else (sf_rgT.getD (n / 16) []).getD (n % 16) 0
  | .inr (_, o), i => bif Nat.beq o 0 then 379 + i else bif Nat.blt o 9 then 391 + o else bif Nat.beq o 30 then 400 + i else bif Nat.blt o 30 then 422 else 411 + (o - 30)
def sf_bdT : List (List (Int × Int)) := [[(0, 0), (0, 0), (0, 12), (0, 0), (0, 0), (0, 0), (0, 0), (0, 0), (0, 0), (0, 0), (0, 0), (0, 0), (0, 0), (0, 0), (0, 0), (0, 120)],
  [(0, 120), (0, 255), (0, 0), (0, 0), (0, 0), (0, 0), (0, 0), (0, 0), (0, 0), (0, 0), (0, 0), (0, 0), (0, 0), (0, 0), (0, 0), (0, 0)],
  [(0, 0), (0, 0), (0, 0), (0, 0), (0, 0), (0, 0), (0, 0), (0, 0), (0, 0), (0, 0), (0, 0), (0, 0), (0, 0), (0, 0), (0, 0), (0, 0)],
  [(0, 0), (0, 0), (0, 0), (0, 0), (0, 0), (0, 0), (0, 0), (0, 0), (0, 0), (0, 0), (0, 0), (0, 0), (0, 0), (0, 0), (0, 0), (0, 0)],
  [(0, 0), (0, 0), (0, 0), (0, 0), (0, 0), (0, 0), (0, 0), (0, 0), (0, 0), (0, 0), (0, 0), (0, 0), (0, 0), (0, 0), (0, 0), (0, 0)],
  [(0, 0), (0, 0), (0, 0), (0, 0), ((-2147483648), 2147483647), ((-2147483648), 2147483647), (0, 0), (0, 0), (0, 0), (0, 0), ((-2147483648), 2147483647), (0, 5), (0, 0), (0, 0), (0, 0), (0, 0)],
  [(0, 0), (0, 0), (0, 0), (0, 0), (0, 0), (0, 0), (0, 0), (0, 0), (0, 0), (0, 0), (0, 0), (0, 0), (0, 0), (0, 0), (0, 0), (0, 0)],
  [(0, 0), (0, 0), (0, 0), (0, 0), (0, 0), (0, 0), (0, 0), (0, 0), (0, 0), (0, 0), (0, 0), (0, 0), (0, 0), (0, 0), (0, 0), (0, 0)],
  [(0, 0), (0, 0), (0, 0), (0, 0), (0, 0), (0, 0), (0, 0), (0, 0), (0, 11), (0, 6), (0, 0), (0, 0), (0, 0), (0, 6), (0, 0), (0, 0)],
  [(0, 0), (0, 0), ((-2147483648), 2147483647), (0, 4), ((-2147483648), 2147483647), (0, 4), (0, 14), (0, 3), (0, 5), (0, 9), (0, 99), ((-2147483648), 2147483647), (0, 6), (0, 0), ((-2147483648), 2147483647), ((-1), 14)],
  [(0, 9), (0, 0), (0, 99), ((-2147483648), 2147483647), (0, 500), (0, 0), (0, 200), (0, 0), (0, 0), (0, 0), (0, 0), (0, 6), (0, 0), (0, 0), (0, 0), ((-1), 5)],
  [((-1), 5), ((-2147483648), 2147483647), ((-2147483648), 2147483647), ((-2147483648), 2147483647), (0, 5), ((-99), 99), (0, 99), (0, 6), (0, 0), (0, 0), (0, 0), (0, 9), (0, 9), (0, 99), (0, 40), (0, 40)],
  [(0, 0), (0, 0), (0, 0), (0, 0), (0, 0), (0, 0), (0, 4), (0, 14), (0, 99), (0, 99), (0, 200), (0, 0), (0, 0), (0, 1000), (0, 0), (0, 5)],
  [(0, 0), (0, 63), (0, 0), (0, 0), (0, 0), (0, 0), ((-2), 4), (0, 60), (0, 199), (0, 0), (0, 0), (0, 0), (0, 0), (0, 0), (0, 0), (0, 0)],
  [(0, 0), (0, 12), (0, 0), (0, 0), (0, 0), (0, 0), (0, 0), (0, 0), (0, 0), (0, 0), (0, 0), (0, 0), (0, 200), (0, 0), (0, 0), (0, 0)],
  [(0, 120), (0, 120), ((-1), 120), (0, 15), (0, 0), (0, 0), (0, 0), (0, 0), (0, 40), (0, 40), (0, 0), (0, 0), (0, 0), (0, 0), (0, 0), (0, 0)],
  [(0, 0), (0, 0), (0, 0), (0, 6), (0, 0), (0, 6), (0, 0), (0, 0), (0, 0), (0, 0), ((-2147483648), 2147483647), (0, 0), (0, 0), (0, 0), ((-2147483648), 2147483647), ((-2147483648), 2147483647)],
  [(0, 5), (0, 1), ((-2147483648), 2147483647), (0, 6), (0, 11), (0, 0), (0, 0), (0, 0), (0, 6), (0, 0), (0, 0), (0, 0), (0, 0), ((-1), 4), ((-2147483648), 2147483647), ((-1), 2147483647)],
  [(0, 4), (0, 6), (0, 0), ((-2147483648), 2147483647), ((-1), 199), (0, 9), (0, 0), (0, 500), (0, 0), (0, 0), (0, 200), (0, 0), (0, 0), (0, 0), (0, 0), (0, 6)],
  [(0, 0), (0, 0), (0, 0), (0, 6), (0, 0), (0, 0), (0, 0), (0, 0), (0, 1000), (0, 0), (0, 0), (0, 0), (0, 0), (0, 0), (0, 6), (0, 9)],
  [(0, 9), (0, 9), (0, 1), (0, 9), (0, 9), (0, 201), ((-1), 11), (0, 11), (0, 5), (0, 468), ((-128), 127), (0, 5), (0, 5), (0, 1), (0, 1), (0, 5)],
  [(0, 467), (0, 9), (0, 9), (0, 9), ((-2147483648), 2147483647), ((-2147483648), 2147483647), (0, 1), ((-2147483648), 2147483647), (0, 0), (0, 0), (0, 5), (0, 0), ((-2147483648), 2147483647), ((-2147483648), 2147483647), (0, 99), (0, 5)],
  [(0, 5), ((-1), 5), (0, 3), (0, 5), (0, 9), (0, 99), (0, 3), (0, 99), ((-2147483648), 2147483647), ((-1), 5), ((-1), 5), ((-2147483648), 2147483647), ((-2147483648), 2147483647), ((-2147483648), 2147483647), ((-2147483648), 2147483647), (0, 5)],
  [((-99), 99), (0, 99), (0, 9), (0, 9), (0, 11), (0, 99), (0, 63), ((-6), 199), (0, 60), (0, 0), (0, 0), (0, 6), (0, 0), (0, 0), (0, 0), (0, 0)],
  [(0, 200), (0, 15), (0, 0), (0, 0), (0, 0), (0, 0), ((-1), 11), ((-1), 11), (0, 99), (0, 99), (0, 99), (0, 99), (0, 5), (0, 5), (0, 9), (0, 9)],
  [(0, 6), (0, 0), (0, 0), (0, 0), (0, 0), (0, 0), (0, 0), (0, 6), (0, 0), (0, 0), (0, 0), (0, 0), ((-2147483648), 2147483647), ((-2147483648), 2147483647), ((-2147483648), 2147483647), ((-2147483648), 2147483647)],
  [(0, 0), (0, 5), (0, 0), (0, 0), (0, 0), (0, 0), (0, 0)]]
def sf_bR (r : Nat) : Int × Int := (sf_bdT.getD (r / 16) []).getD (r % 16) (-2147483648, 2147483647)
def sf_bd (a : mx_A) (i : Nat) : Int × Int := sf_bR (sf_rg a i)
/-- where references to shapes lie that change: shapes, the draft, history's, homes -/
def sf_rr : mx_A → Nat
  | .inl n => bif Nat.beq n 3 then 424 else bif Nat.beq n 0 then 425 else bif Nat.beq n 85 then 426 else bif Nat.beq n 92 then 427 else 428
  | .inr _ => 428
/-- the regions of which more is known than bounds -/
def sf_jm : Nat := 484251887466381787897445801280719149899206322997465044506403229429033934336710497741664434975583127624845043872699514884
def sf_jr (r : Nat) : Bool := sf_jm.testBit r
/-- the ints of those regions, as numbers -/
def sf_jf (h : mx_H) (a : mx_A) (i : Nat) : Int := bif sf_jr (sf_rg a i) then (h.2.1 a i).toInt else 0
/-- the class: pieces lie between corners -/
def sf_J1 (f : mx_A → Nat → Int) : Prop := ∀ j k : Nat, (k : Int) < f (.inr (j, 0)) 6 → f (.inr (j, 5)) k < f (.inr (j, 0)) 0 ∧ f (.inr (j, 6)) k < f (.inr (j, 0)) 0
/-- strokes of HEAVY name corners -/
def sf_J2 (f : mx_A → Nat → Int) : Prop := ∀ k : Nat, (k : Int) < f (.inl 60) 1 → f (.inl 61) k = 3 → f (.inl 62) k ≤ 5
/-- acts on corners name corners -/
def sf_J3 (f : mx_A → Nat → Int) : Prop := f (.inl 84) 0 + f (.inl 84) 1 ≤ 40 ∧ ∀ k : Nat, (k : Int) < f (.inl 84) 0 + f (.inl 84) 1 → f (.inl 86) k ≤ 3 → f (.inl 87) k ≤ 5
/-- the draft's number -/
def sf_J4 (f : mx_A → Nat → Int) (R : mx_A → Nat → Option mx_A) (n : Nat) : Prop := ∃ m : Nat, R (.inl 0) 3 = some (.inr (m, 0)) ∧ n = 167 + 9 * m ∧ f (.inl 0) 2 = m ∧ ∀ i j : Nat, R (.inl 3) i = some (.inr (j, 0)) → j < m
/-- the reference: acts name places where they must -/
def sf_K1 (f : mx_A → Nat → Int) : Prop := f (.inl 105) 24 + f (.inl 105) 25 ≤ 40 ∧ ∀ k : Nat, (k : Int) < f (.inl 105) 24 + f (.inl 105) 25 →
    (f (.inl 123) k ≠ 3 ∧ f (.inl 123) k ≠ 4 → f (.inl 124) k < 78) ∧ (f (.inl 123) k = 4 ∨ f (.inl 123) k = 5 → 1 ≤ f (.inl 125) k ∧ 1 ≤ f (.inl 126) k)
/-- corners are heavy -/
def sf_K2 (f : mx_A → Nat → Int) : Prop := ∀ s c : Nat, (s : Int) < f (.inl 105) 1 → (c : Int) < f (.inl 106) s → 1 ≤ f (.inl 107) (6 * s + c)
/-- pieces are stiff -/
def sf_K3 (f : mx_A → Nat → Int) : Prop := ∀ p : Nat, (p : Int) < 36 * f (.inl 105) 1 → 0 < f (.inl 113) p → 1 ≤ f (.inl 111) p
/-- a piece lies both ways -/
def sf_K4 (f : mx_A → Nat → Int) : Prop := ∀ s a b : Nat, (s : Int) < f (.inl 105) 1 → a < 6 → b < 6 → f (.inl 113) (36 * s + 6 * a + b) = f (.inl 113) (36 * s + 6 * b + a)
/-- bodies lie where pieces are -/
def sf_K5 (f : mx_A → Nat → Int) : Prop := ∀ b : Nat, (b : Int) < f (.inl 105) 12 → 0 < f (.inl 117) b → ∃ s x y : Nat, f (.inl 117) b = ((36 * s + 6 * x + y : Nat) : Int) + 1 ∧ (s : Int) < f (.inl 105) 1 ∧ (x : Int) < f (.inl 106) s ∧ (y : Int) < f (.inl 106) s ∧ x ≠ y ∧ f (.inl 113) (36 * s + 6 * x + y) = (b : Int) + 1
def sf_JC (f : mx_A → Nat → Int) (R : mx_A → Nat → Option mx_A) (n : Nat) : Prop := sf_J1 f ∧ sf_J2 f ∧ sf_J3 f ∧ sf_J4 f R n
def sf_JR (f : mx_A → Nat → Int) : Prop := sf_K1 f ∧ sf_K2 f ∧ sf_K3 f ∧ sf_K4 f ∧ sf_K5 f
def sf_J (h : mx_H) : Prop := sf_JC (sf_jf h) h.2.2.2 h.1 ∧ sf_JR (sf_jf h)
def sf_sr (a : mx_A) (i : Nat) : Bool := match a with
  | .inl n => Nat.beq n 3 || (Nat.beq n 85 || (Nat.beq n 92 || (Nat.beq n 0 && Nat.beq i 3)))
  | .inr _ => false
/-- every int keeps its bounds; what lies among the shapes is a shape; what holds between ints -/
def sf_I (h : mx_H) : Prop := (∀ a i, sf_iv (sf_bd a i).1 (sf_bd a i).2 (h.2.1 a i)) ∧ (∀ a i b, sf_sr a i = true → h.2.2.2 a i = some b → ∃ j, b = .inr (j, 0)) ∧ sf_J h
/-- a call wrote no more than what the mask names -/
def sf_E (m : Nat) (h h' : mx_H) : Prop := (∀ a i, m.testBit (sf_rg a i) = false → h'.2.1 a i = h.2.1 a i) ∧ (∀ a i, m.testBit (sf_rr a) = false → h'.2.2.2 a i = h.2.2.2 a i) ∧ (m.testBit 429 = false → h'.1 = h.1)
theorem sf_rd {h : mx_H} {r : Nat} {lo hi : Int} (hI : sf_I h) (a : mx_A) (i : Nat) (e : sf_rg a i = r) (e2 : sf_bR r = (lo, hi)) : sf_iv lo hi (h.2.1 a i) := by
  have p := hI.1 a i
  unfold sf_bd at p
  rw [e, e2] at p
  exact p
theorem sf_rt {h : mx_H} {a : mx_A} {i : Nat} (hI : sf_I h) (e : sf_sr a i = true) : ∀ b, h.2.2.2 a i = some b → ∃ j, b = .inr (j, 0) := fun b hb => hI.2.1 a i b e hb
theorem sf_dn {h : mx_H} (hI : sf_I h) : ¬ h.2.2.2 (.inl 0) 3 = none := fun e => by
  obtain ⟨j, hj, -⟩ := hI.2.2.1.2.2.2
  rw [e] at hj
  cases hj
theorem sf_jf_u {h : mx_H} {a : mx_A} {i : Nat} {v : Int32} (hj : sf_jr (sf_rg a i) = false) : sf_jf (mx_uI h a i v) = sf_jf h := by
  funext b j
  unfold sf_jf
  by_cases q : b = a ∧ j = i
  · rw [q.1, q.2, hj, cond_false, cond_false]
  · rw [show (mx_uI h a i v).2.1 b j = h.2.1 b j from if_neg q]
theorem sf_J_u {h : mx_H} {a : mx_A} {i : Nat} {v : Int32} (hj : sf_jr (sf_rg a i) = false) (hJ : sf_J h) : sf_J (mx_uI h a i v) := by
  unfold sf_J
  rw [sf_jf_u hj]
  exact hJ
theorem sf_uI {h : mx_H} {a : mx_A} {i r : Nat} {v : Int32} {lo hi : Int} (hI : sf_I h) (e : sf_rg a i = r) (p : sf_iv lo hi v) (hc : (decide ((sf_bR r).1 ≤ lo) && (decide (hi ≤ (sf_bR r).2) && !sf_jr r)) = true) : sf_I (mx_uI h a i v) := by
  subst e
  simp only [Bool.and_eq_true, decide_eq_true_eq, Bool.not_eq_true'] at hc
  refine ⟨fun b j => ?_, hI.2.1, sf_J_u hc.2.2 hI.2.2⟩
  by_cases q : b = a ∧ j = i
  · obtain ⟨rfl, rfl⟩ := q
    exact iv_s ⟨Int.le_trans hc.1 p.1, Int.le_trans p.2 hc.2.1⟩
  · exact iv_e (if_neg q) (hI.1 b j)
theorem sf_uL {h : mx_H} {a : mx_A} {i : Nat} {v : Int64} (hI : sf_I h) : sf_I (mx_uL h a i v) := hI
theorem sf_E0 (m : Nat) (h : mx_H) : sf_E m h h := ⟨fun _ _ _ => rfl, fun _ _ _ => rfl, fun _ => rfl⟩
theorem sf_Eu {m : Nat} {h h' : mx_H} {a : mx_A} {i r : Nat} {v : Int32} (e : sf_rg a i = r) (hb : m.testBit r = true) (hE : sf_E m h h') : sf_E m h (mx_uI h' a i v) := by
  subst e
  refine ⟨fun b j hf => ?_, hE.2.1, hE.2.2⟩
  have q : ¬ (b = a ∧ j = i) := fun q => by
    rw [q.1, q.2, hb] at hf
    cases hf
  exact (if_neg q).trans (hE.1 b j hf)
theorem sf_fr {m : Nat} {h h' : mx_H} {a : mx_A} {i r : Nat} (hE : sf_E m h h') (e : sf_rg a i = r) (hb : m.testBit r = false) : h'.2.1 a i = h.2.1 a i := by
  subst e
  exact hE.1 a i hb
theorem sf_EL {m : Nat} {h h' : mx_H} {a : mx_A} {i : Nat} {v : Int64} (hE : sf_E m h h') : sf_E m h (mx_uL h' a i v) := hE
theorem sf_sub {m k r : Nat} (hs : k &&& m = k) (hf : m.testBit r = false) : k.testBit r = false := by
  rw [← hs, Nat.testBit_and, hf, Bool.and_false]
theorem sf_Et {m k : Nat} {h h1 h2 : mx_H} (hs : k &&& m = k) (hE : sf_E m h h1) (hk : sf_E k h1 h2) : sf_E m h h2 :=
  ⟨fun a i hf => (hk.1 a i (sf_sub hs hf)).trans (hE.1 a i hf), fun a i hf => (hk.2.1 a i (sf_sub hs hf)).trans (hE.2.1 a i hf), fun hf => (hk.2.2 (sf_sub hs hf)).trans (hE.2.2 hf)⟩
theorem iv_nar1 (x : Int32) : sf_iv 0 1 (vp_nar .boolean x) := iv_and rfl (by decide)
theorem iv_nar8 (x : Int32) : sf_iv (-128) 127 (vp_nar .byte x) := iv_i2b x
/-! ===== Arrays.fill; TONES: bounds kept ===== -/
theorem sf_fi {h : mx_H} {a : mx_A} {v : Int32} {r : Nat} {lo hi : Int} (hI : sf_I h) (hr : ∀ i, sf_rg a i = r) (p : sf_iv lo hi v) (hc : (decide ((sf_bR r).1 ≤ lo) && (decide (hi ≤ (sf_bR r).2) && !sf_jr r)) = true) : ∀ n, sf_I (sp_fi h a v n)
  | 0 => by
    rw [sp_fi_0]
    exact hI
  | n + 1 => by
    rw [← sp_fi_s]
    exact sf_uI (sf_fi hI hr p hc n) (hr n) p hc
theorem sf_fiE {h : mx_H} {a : mx_A} {v : Int32} {m r : Nat} (hr : ∀ i, sf_rg a i = r) (hb : m.testBit r = true) : ∀ n, sf_E m h (sp_fi h a v n)
  | 0 => by
    rw [sp_fi_0]
    exact sf_E0 _ _
  | n + 1 => by
    rw [← sp_fi_s]
    exact sf_Eu (hr n) hb (sf_fiE hr hb n)
section SFF
variable {E : mx_Ev} {d : Nat} {h : mx_H} {Q : Option mx_V → mx_H → Prop}
theorem sf_fill {a : mx_A} {v : Int32} {N m r : Nat} {lo hi : Int} (ha : mx_lo a = (100, N)) (hN : N < 10000) (hr : ∀ i, sf_rg a i = r) (p : sf_iv lo hi v) (hc : (decide ((sf_bR r).1 ≤ lo) && (decide (hi ≤ (sf_bR r).2) && !sf_jr r)) = true) (hb : m.testBit r = true) (hI : sf_I h) (hQ : ∀ h', sf_I h' → sf_E m h h' → Q none h') : mx_C E (mx_fn true) d 317 [.inr a, .inl (.int v)] h Q :=
  sp_fill ha hN (hQ _ (sf_fi hI hr p hc N) (sf_fiE hr hb N))
theorem sf_fl {hh : mx_H} {t : Nat} {v : Int64} : ∀ (k c : Nat) {h : mx_H}, c + k = 60 → h.2.1 = hh.2.1 ∧ h.2.2.2 = hh.2.2.2 ∧ h.1 = hh.1 → (∀ h', h'.2.1 = hh.2.1 ∧ h'.2.2.2 = hh.2.2.2 ∧ h'.1 = hh.1 → Q none h') → mx_T E (mx_fn true) d 0 0 316 6 [(0, .inr (.inr (t, 20))), (1, .inl (.long v)), (3, .inl (.int (nI c))), (4, .inl (.int (nI 60)))] [] h Q
  | 0, c, h, e, he, hQ => by
    have e : c = 60 := by omega
    subst e
    exact sg316_6 ⟨fun _ => hQ _ he, fun h1 => absurd (by decide) h1⟩
  | k + 1, c, h, e, he, hQ => by
    refine sg316_6 ⟨fun h1 => absurd h1 (nI_ge (by omega) (by decide)), fun _ => (show _ ∧ _ from ⟨(show vp_in (nI c) 60 from vp_in_nI (by omega) (by decide)), ?_⟩)⟩
    rw [nI_1]
    exact sf_fl k (c + 1) (by omega) he hQ
theorem sf_same {h h' : mx_H} (e : h'.2.1 = h.2.1 ∧ h'.2.2.2 = h.2.2.2 ∧ h'.1 = h.1) (hI : sf_I h) : sf_I h' := by
  obtain ⟨n, I, L, R⟩ := h
  obtain ⟨n', I', L', R'⟩ := h'
  obtain ⟨e1, e2, e3⟩ := e
  dsimp only at e1 e2 e3
  subst e1
  subst e2
  subst e3
  exact hI
theorem sf_fillL {t : Nat} {v : Int64} (hI : sf_I h) (hQ : ∀ h', sf_I h' → sf_E 0 h h' → Q none h') : mx_C E (mx_fn true) d 316 [.inr (.inr (t, 20)), .inl (.long v)] h Q :=
  sg316_0 (sf_fl (E := E) (hh := h) 60 0 rfl ⟨rfl, rfl, rfl⟩ (fun h' e => hQ h' (sf_same e hI) ⟨fun a i _ => by rw [e.1], fun a i _ => by rw [e.2.1], fun _ => e.2.2⟩))
theorem sf_nI {n : Nat} {b : Int} (hn : (n : Int) ≤ b) (hb : b ≤ 2147483647) : sf_iv 0 b (nI n) := by
  unfold sf_iv
  rw [nI_toInt (by omega)]
  exact ⟨by omega, hn⟩
theorem sf_of {x : Int32} {b : Nat} (p : sf_iv 0 b x) : ∃ k : Nat, k ≤ b ∧ x = nI k := by
  obtain ⟨p1, p2⟩ := p
  refine ⟨x.toInt.toNat, by omega, Int32.toInt_inj.mp ?_⟩
  have := (iv_rng x).2
  rw [nI_toInt (by omega)]
  omega
theorem sf60 {t0 : Nat} (hI : sf_I h) (hQ : ∀ x h', sf_I h' → sf_E 0 h h' → sf_iv 0 6 x → Q (some (.inl (.int x))) h') : mx_C E (mx_fn true) d 60 [.inr (.inr (t0, 0))] h Q := by
  obtain ⟨N, hN, hc⟩ := sf_of (b := 6) (sf_rd (r := 379) (lo := 0) (hi := 6) hI (.inr (t0, 0)) 0 rfl rfl)
  refine sp_tonesX hN hc (hQ _ _ hI (sf_E0 _ _) (sf_nI ?_ (by decide)))
  have := sp_cnt_le (h.2.1 (.inr (t0, 4))) 0 N
  omega
theorem sf195 {a1 : Int32} (pa1 : sf_iv 0 11 a1) (hI : sf_I h) (hQ : ∀ x h', sf_I h' → sf_E 0 h h' → sf_iv 0 6 x → Q (some (.inl (.int x))) h') : mx_C E (mx_fn true) d 195 [.inr (.inl 105), .inl (.int a1)] h Q := by
  obtain ⟨S, hS, rfl⟩ := sf_of (b := 11) pa1
  obtain ⟨N, hN, hc⟩ := sf_of (b := 6) (sf_rd (r := 318) (lo := 0) (hi := 6) hI (.inl 106) S rfl rfl)
  refine sp_tonesM (by omega) hN hc (hQ _ _ hI (sf_E0 _ _) (sf_nI ?_ (by decide)))
  have := sp_cnt_le (h.2.1 (.inl 110)) (6 * S) N
  omega
end SFF
/-! ===== ints as numbers, for linear arithmetic ===== -/
theorem li_add {a b c d X Y : Int} {x y : Int32} (hx : sf_iv a b x) (hy : sf_iv c d y) (hc : iv_cb (a + c) (b + d) (a + c) (b + d) = true) (ex : x.toInt = X) (ey : y.toInt = Y) : (x + y).toInt = X + Y := by
  obtain ⟨-, -, h3, h4⟩ := iv_cb_s hc
  obtain ⟨x1, x2⟩ := hx
  obtain ⟨y1, y2⟩ := hy
  rw [Int32.toInt_add, iv_bm (by omega) (by omega), ex, ey]
theorem li_sub {a b c d X Y : Int} {x y : Int32} (hx : sf_iv a b x) (hy : sf_iv c d y) (hc : iv_cb (a - d) (b - c) (a - d) (b - c) = true) (ex : x.toInt = X) (ey : y.toInt = Y) : (x - y).toInt = X - Y := by
  obtain ⟨-, -, h3, h4⟩ := iv_cb_s hc
  obtain ⟨x1, x2⟩ := hx
  obtain ⟨y1, y2⟩ := hy
  rw [Int32.toInt_sub, iv_bm (by omega) (by omega), ex, ey]
theorem li_mul {b d X Y : Int} {x y : Int32} (hx : sf_iv 0 b x) (hy : sf_iv 0 d y) (hc : iv_cb 0 (b * d) 0 (b * d) = true) (ex : x.toInt = X) (ey : y.toInt = Y) : (x * y).toInt = X * Y := by
  obtain ⟨-, -, h3, h4⟩ := iv_cb_s hc
  obtain ⟨x1, x2⟩ := hx
  obtain ⟨y1, y2⟩ := hy
  have p0 : 0 ≤ x.toInt * y.toInt := Int.mul_nonneg x1 y1
  have p1 : x.toInt * y.toInt ≤ b * d := Int.mul_le_mul x2 y2 y1 (Int.le_trans x1 x2)
  rw [Int32.toInt_mul, iv_bm (by omega) (by omega), ex, ey]
theorem li_div {a b k X : Int} {x y : Int32} (hx : sf_iv a b x) (hc : (decide (0 ≤ a) && decide (0 < k)) = true) (ex : x.toInt = X) (ey : y.toInt = k) : (x / y).toInt = X / k := by
  simp only [Bool.and_eq_true, decide_eq_true_eq] at hc
  obtain ⟨x1, x2⟩ := hx
  have r := (iv_rng x).2
  have q0 : 0 ≤ x.toInt / k := Int.ediv_nonneg (by omega) (by omega)
  have q1 : x.toInt / k ≤ x.toInt := Int.ediv_le_self _ (by omega)
  rw [Int32.toInt_div, ey, Int.tdiv_eq_ediv_of_nonneg (by omega), iv_bm (by omega) (by omega), ex]
theorem li_o {X : Int} {H : mx_H} {a b : mx_A} {i j : Nat} {v : Int32} (hne : b ≠ a) (p : (H.2.1 b j).toInt = X) : ((mx_uI H a i v).2.1 b j).toInt = X := (congrArg Int32.toInt (sp_up_ne hne)).trans p
theorem li_s {X : Int} {H : mx_H} {a : mx_A} {i : Nat} {v : Int32} (p : v.toInt = X) : ((mx_uI H a i v).2.1 a i).toInt = X := (congrArg Int32.toInt (if_pos ⟨rfl, rfl⟩)).trans p
theorem li_g {X : Int} {H : mx_H} {a : mx_A} {i j : Nat} {v : Int32} (hj : j ≠ i) (p : (H.2.1 a j).toInt = X) : ((mx_uI H a i v).2.1 a j).toInt = X := (congrArg Int32.toInt (if_neg (fun q => hj q.2))).trans p
theorem li_L {X : Int} {H : mx_H} {a b : mx_A} {i j : Nat} {v : Int64} (p : (H.2.1 b j).toInt = X) : ((mx_uL H a i v).2.1 b j).toInt = X := p
theorem li_e {X : Int} {x y : Int32} (e : x = y) (p : y.toInt = X) : x.toInt = X := (congrArg Int32.toInt e).trans p
theorem li_lt {x y : Int32} {X Y : Int} (g : x < y) (ex : x.toInt = X) (ey : y.toInt = Y) : X < Y := by
  rw [← ex, ← ey]
  exact Int32.lt_iff_toInt_lt.mp g
theorem li_le {x y : Int32} {X Y : Int} (g : x ≤ y) (ex : x.toInt = X) (ey : y.toInt = Y) : X ≤ Y := by
  rw [← ex, ← ey]
  exact Int32.le_iff_toInt_le.mp g
theorem li_eq {x y : Int32} {X Y : Int} (g : x = y) (ex : x.toInt = X) (ey : y.toInt = Y) : X = Y := by
  rw [← ex, ← ey, g]
theorem li_ne {x y : Int32} {X Y : Int} (g : ¬ x = y) (ex : x.toInt = X) (ey : y.toInt = Y) : ¬ X = Y := by
  rw [← ex, ← ey]
  exact fun e => g (Int32.toInt_inj.mp e)
theorem li_in {x : Int32} {X : Int} {n : Nat} (ex : x.toInt = X) (h : 0 ≤ X ∧ X < n) : vp_in x n := by
  refine sp_vin (Int32.le_iff_toInt_le.mpr ?_) ?_
  · rw [show (0 : Int32).toInt = 0 from rfl]
    omega
  · show x.toInt.toNat < n
    omega
theorem li_iv {x : Int32} {X lo hi : Int} (ex : x.toInt = X) (h : lo ≤ X ∧ X ≤ hi) : sf_iv lo hi x := by
  rw [← ex] at h
  exact h
theorem li_min {x y : Int32} {X Y : Int} (ex : x.toInt = X) (ey : y.toInt = Y) : (if y < x then y else x).toInt ≤ X ∧ (if y < x then y else x).toInt ≤ Y := by
  split
  · next g => have := Int32.lt_iff_toInt_lt.mp g; omega
  · next g => have := Int32.le_iff_toInt_le.mp (Int32.not_lt.mp g); omega
/-! a switch by a table -/
theorem sw_d {P : Nat → Prop} {tgt D : Nat} {z : Int} (hz : z = (tgt : Int)) (hD : z = (D : Int)) (p : P D) : P tgt := by
  have e : tgt = D := by omega
  rw [e]
  exact p
theorem sw_4 {P : Nat → Prop} {x l p0 o0 o1 o2 o3 : Int} {tgt : Nat} (D0 D1 D2 D3 : Nat) (q : l ≤ x ∧ x ≤ l + 3 ∧ ∃ o, (#[o0, o1, o2, o3] : Array Int)[(x - l).toNat]? = some o ∧ p0 + o = (tgt : Int))
    (h0 : x = l → P D0) (h1 : x = l + 1 → P D1) (h2 : x = l + 2 → P D2) (h3 : x = l + 3 → P D3) (e0 : p0 + o0 = (D0 : Int)) (e1 : p0 + o1 = (D1 : Int)) (e2 : p0 + o2 = (D2 : Int)) (e3 : p0 + o3 = (D3 : Int)) : P tgt := by
  obtain ⟨q1, q2, o, ho, hz⟩ := q
  rcases (show x = l ∨ x = l + 1 ∨ x = l + 2 ∨ x = l + 3 by omega) with r | r | r | r
  · rw [show (x - l).toNat = 0 by omega] at ho
    have ho : some o0 = some o := ho
    cases ho
    exact sw_d hz e0 (h0 r)
  · rw [show (x - l).toNat = 1 by omega] at ho
    have ho : some o1 = some o := ho
    cases ho
    exact sw_d hz e1 (h1 r)
  · rw [show (x - l).toNat = 2 by omega] at ho
    have ho : some o2 = some o := ho
    cases ho
    exact sw_d hz e2 (h2 r)
  · rw [show (x - l).toNat = 3 by omega] at ho
    have ho : some o3 = some o := ho
    cases ho
    exact sw_d hz e3 (h3 r)
theorem sw_5 {P : Nat → Prop} {x l p0 o0 o1 o2 o3 o4 : Int} {tgt : Nat} (D0 D1 D2 D3 D4 : Nat) (q : l ≤ x ∧ x ≤ l + 4 ∧ ∃ o, (#[o0, o1, o2, o3, o4] : Array Int)[(x - l).toNat]? = some o ∧ p0 + o = (tgt : Int))
    (h0 : x = l → P D0) (h1 : x = l + 1 → P D1) (h2 : x = l + 2 → P D2) (h3 : x = l + 3 → P D3) (h4 : x = l + 4 → P D4) (e0 : p0 + o0 = (D0 : Int)) (e1 : p0 + o1 = (D1 : Int)) (e2 : p0 + o2 = (D2 : Int)) (e3 : p0 + o3 = (D3 : Int)) (e4 : p0 + o4 = (D4 : Int)) : P tgt := by
  obtain ⟨q1, q2, o, ho, hz⟩ := q
  rcases (show x = l ∨ x = l + 1 ∨ x = l + 2 ∨ x = l + 3 ∨ x = l + 4 by omega) with r | r | r | r | r
  · rw [show (x - l).toNat = 0 by omega] at ho
    have ho : some o0 = some o := ho
    cases ho
    exact sw_d hz e0 (h0 r)
  · rw [show (x - l).toNat = 1 by omega] at ho
    have ho : some o1 = some o := ho
    cases ho
    exact sw_d hz e1 (h1 r)
  · rw [show (x - l).toNat = 2 by omega] at ho
    have ho : some o2 = some o := ho
    cases ho
    exact sw_d hz e2 (h2 r)
  · rw [show (x - l).toNat = 3 by omega] at ho
    have ho : some o3 = some o := ho
    cases ho
    exact sw_d hz e3 (h3 r)
  · rw [show (x - l).toNat = 4 by omega] at ho
    have ho : some o4 = some o := ho
    cases ho
    exact sw_d hz e4 (h4 r)
theorem sw_6 {P : Nat → Prop} {x l p0 o0 o1 o2 o3 o4 o5 : Int} {tgt : Nat} (D0 D1 D2 D3 D4 D5 : Nat) (q : l ≤ x ∧ x ≤ l + 5 ∧ ∃ o, (#[o0, o1, o2, o3, o4, o5] : Array Int)[(x - l).toNat]? = some o ∧ p0 + o = (tgt : Int))
    (h0 : x = l → P D0) (h1 : x = l + 1 → P D1) (h2 : x = l + 2 → P D2) (h3 : x = l + 3 → P D3) (h4 : x = l + 4 → P D4) (h5 : x = l + 5 → P D5) (e0 : p0 + o0 = (D0 : Int)) (e1 : p0 + o1 = (D1 : Int)) (e2 : p0 + o2 = (D2 : Int)) (e3 : p0 + o3 = (D3 : Int)) (e4 : p0 + o4 = (D4 : Int)) (e5 : p0 + o5 = (D5 : Int)) : P tgt := by
  obtain ⟨q1, q2, o, ho, hz⟩ := q
  rcases (show x = l ∨ x = l + 1 ∨ x = l + 2 ∨ x = l + 3 ∨ x = l + 4 ∨ x = l + 5 by omega) with r | r | r | r | r | r
  · rw [show (x - l).toNat = 0 by omega] at ho
    have ho : some o0 = some o := ho
    cases ho
    exact sw_d hz e0 (h0 r)
  · rw [show (x - l).toNat = 1 by omega] at ho
    have ho : some o1 = some o := ho
    cases ho
    exact sw_d hz e1 (h1 r)
  · rw [show (x - l).toNat = 2 by omega] at ho
    have ho : some o2 = some o := ho
    cases ho
    exact sw_d hz e2 (h2 r)
  · rw [show (x - l).toNat = 3 by omega] at ho
    have ho : some o3 = some o := ho
    cases ho
    exact sw_d hz e3 (h3 r)
  · rw [show (x - l).toNat = 4 by omega] at ho
    have ho : some o4 = some o := ho
    cases ho
    exact sw_d hz e4 (h4 r)
  · rw [show (x - l).toNat = 5 by omega] at ho
    have ho : some o5 = some o := ho
    cases ho
    exact sw_d hz e5 (h5 r)
theorem iv_is {n : Int} {x : Int32} (h : x.toInt = n) : sf_iv n n x := iv_k h
theorem iv_shl_k : ∀ k : Nat, k < 31 → ((1 : Int32) <<< (nI k &&& 31)).toInt = ((2 ^ k : Nat) : Int) := by decide +kernel
theorem iv_shl1 {a b lo hi : Int} {x : Int32} (p : sf_iv a b x) (hc : (decide (0 ≤ a) && (decide (b ≤ 30) && (decide (lo ≤ ((2 ^ a.toNat : Nat) : Int)) && decide (((2 ^ b.toNat : Nat) : Int) ≤ hi)))) = true) : sf_iv lo hi (1 <<< (x &&& 31)) := by
  simp only [Bool.and_eq_true, decide_eq_true_eq] at hc
  obtain ⟨h1, h2, h3, h4⟩ := hc
  obtain ⟨p1, p2⟩ := p
  obtain ⟨k, hk, rfl⟩ := sf_of (b := 30) (x := x) ⟨by omega, by omega⟩
  rw [nI_toInt (by omega)] at p1 p2
  have e := iv_shl_k k (by omega)
  have m1 : 2 ^ a.toNat ≤ 2 ^ k := Nat.pow_le_pow_right (by decide) (by omega)
  have m2 : 2 ^ k ≤ 2 ^ b.toNat := Nat.pow_le_pow_right (by decide) (by omega)
  unfold sf_iv
  rw [e]
  exact ⟨Int.le_trans h3 (Int.ofNat_le.mpr m1), Int.le_trans (Int.ofNat_le.mpr m2) h4⟩
theorem iv_and2 {b lo hi : Int} {x y : Int32} (hx : sf_iv 0 b x) (hc : (decide (lo ≤ 0) && decide (b ≤ hi)) = true) : sf_iv lo hi (x &&& y) := by
  simp only [Bool.and_eq_true, decide_eq_true_eq] at hc
  have p := iv_and (x := y) (y := x) (m := x.toInt) rfl (by rw [decide_eq_true_eq]; exact hx.1)
  have e : x &&& y = y &&& x := by
    apply Int32.toBitVec_inj.mp
    rw [Int32.toBitVec_and, Int32.toBitVec_and, BitVec.and_comm]
  rw [e]
  exact ⟨Int.le_trans hc.1 p.1, Int.le_trans p.2 (Int.le_trans hx.2 hc.2)⟩
theorem iv_nat {b : Int} {x : Int32} (hx : sf_iv 0 b x) : x.toInt = (x.toBitVec.toNat : Int) := by
  have h0 : x.toInt = x.toBitVec.toInt := rfl
  have h1 := hx.1
  rw [h0, BitVec.toInt_eq_toNat_cond] at h1
  rw [h0, BitVec.toInt_eq_toNat_cond]
  split at h1
  · rw [if_pos (by assumption)]
  · have := x.toBitVec.isLt
    omega
theorem iv_or {m : Int} {k : Nat} {x y : Int32} (hk : (decide (m + 1 = ((2 ^ k : Nat) : Int)) && decide (k ≤ 31)) = true) (hx : sf_iv 0 m x) (hy : sf_iv 0 m y) : sf_iv 0 m (x ||| y) := by
  simp only [Bool.and_eq_true, decide_eq_true_eq] at hk
  have ex := iv_nat hx
  have ey := iv_nat hy
  obtain ⟨x1, x2⟩ := hx
  obtain ⟨y1, y2⟩ := hy
  have hl : (x ||| y).toBitVec.toNat < 2 ^ k := by
    rw [Int32.toBitVec_or, BitVec.toNat_or]
    exact Nat.or_lt_two_pow (by omega) (by omega)
  have h31 : 2 ^ k ≤ 2 ^ 31 := Nat.pow_le_pow_right (by decide) hk.2
  have e : (x ||| y).toInt = ((x ||| y).toBitVec.toNat : Int) := by
    show (x ||| y).toBitVec.toInt = _
    rw [BitVec.toInt_eq_toNat_cond, if_pos (by omega)]
  exact ⟨by omega, by omega⟩
/-! ===== bitsOf and minor of the reference ===== -/
theorem mx_T0.deep {E : mx_Ev} {fin : mx_A → Nat → Option mx_A} {d d' bc bs mid pc : Nat} {lv : mx_Lv} {st : List mx_V} {h : mx_H} {Q : Option mx_V → mx_H → Prop} (hd : d ≤ d') (hT : mx_T0 E fin d bc bs mid pc lv st h Q) : mx_T0 E fin d' bc bs mid pc lv st h Q :=
  fun p e R s m args below meth c H locs cells slots Qw ls hS => hT p e R s m args below meth c H locs cells slots Qw ls ⟨hS.1, hS.2.1, hS.2.2.1, hS.2.2.2.1, hS.2.2.2.2.1, hS.2.2.2.2.2.1, hS.2.2.2.2.2.2.1, hS.2.2.2.2.2.2.2.1, hS.2.2.2.2.2.2.2.2.1, Nat.le_trans hd hS.2.2.2.2.2.2.2.2.2.1, by
    have := hS.2.2.2.2.2.2.2.2.2.2
    omega⟩
theorem mx_T.deep {E : mx_Ev} {fin : mx_A → Nat → Option mx_A} {d d' bc bs mid pc : Nat} {lv : mx_Lv} {st : List mx_V} {h : mx_H} {Q : Option mx_V → mx_H → Prop} (hd : d ≤ d') (hT : mx_T E fin d bc bs mid pc lv st h Q) : mx_T E fin d' bc bs mid pc lv st h Q :=
  mx_T.mk ⟨fun f hf P hP => mx_T0.deep hd (hT.up.1 f hf P hP), hT.up.2⟩
/-- how many bits of a number below 128 -/
def sf_pb (k : Nat) : Nat := k % 2 + k / 2 % 2 + k / 4 % 2 + k / 8 % 2 + k / 16 % 2 + k / 32 % 2 + k / 64 % 2
theorem sf_b1 : ∀ k, k < 128 → k ≠ 0 → (nI k &&& (nI k - 1)) = nI (k &&& (k - 1)) ∧ (k &&& (k - 1)) < 128 ∧ sf_pb (k &&& (k - 1)) + 1 = sf_pb k := by decide +kernel
theorem sf_b2 : ∀ k, k < 64 → sf_pb k ≤ 6 := by decide +kernel
theorem sf_b2b : ∀ k, k < 128 → sf_pb k ≤ 7 := by decide +kernel
theorem sf_b3 : ∀ k, k < 128 → (nI k = 0 ↔ k = 0) := by decide +kernel
theorem sf_b4 : ∀ k, k < 64 → ∀ i, i < 6 → ((nI k >>> (nI i &&& 31)) &&& 1) = nI (k / 2 ^ i % 2) := by decide +kernel
theorem sf_b5 : ∀ k, k < 64 → ∀ i, i < 6 → (nI k &&& (((1 : Int32) <<< (nI i &&& 31)) ^^^ (-1))) = nI (k &&& (63 - 2 ^ i)) ∧ (k &&& (63 - 2 ^ i)) < 64 ∧ (k / 2 ^ i % 2 = 1 → sf_pb (k &&& (63 - 2 ^ i)) + 1 = sf_pb k) := by decide +kernel
theorem sf_b6 : ∀ k, k < 64 → k ≠ 0 → ∃ i, i < 6 ∧ k / 2 ^ i % 2 = 1 ∧ ∀ j, j < i → k / 2 ^ j % 2 = 0 := by decide +kernel
theorem sf_b7 : ∀ b : Nat, b < 2 → (nI b = 0 ↔ b = 0) := by decide +kernel
section SFB
variable {E : mx_Ev} {d : Nat} {h : mx_H} {Q : Option mx_V → mx_H → Prop}
theorem sf211_4 {b : Nat} (hb : b ≤ 7) : ∀ (n k c : Nat), k < 128 → sf_pb k = n → c + n ≤ b → (∀ x, sf_iv 0 b x → Q (some (.inl (.int x))) h) → mx_T E (mx_fn true) d 0 0 211 4 [(1, .inl (.int (nI c))), (2, .inl (.int (nI k)))] [] h Q
  | 0, k, c, hk, hp, hc, hQ => by
    refine sg211_4 ⟨fun _ => hQ _ (sf_nI (by omega) (by omega)), fun g => ?_⟩
    have hk0 : k ≠ 0 := fun e => g ((sf_b3 k hk).mpr e)
    have := (sf_b1 k hk hk0).2.2
    omega
  | n + 1, k, c, hk, hp, hc, hQ => by
    refine sg211_4 ⟨fun _ => hQ _ (sf_nI (by omega) (by omega)), fun g => ?_⟩
    have hk0 : k ≠ 0 := fun e => g ((sf_b3 k hk).mpr e)
    obtain ⟨e1, e2, e3⟩ := sf_b1 k hk hk0
    rw [e1, nI_1]
    exact sf211_4 hb n _ (c + 1) e2 (by omega) (by omega) hQ
theorem sf211 {a0 : Int32} (pa0 : sf_iv 0 127 a0) (hI : sf_I h) (hQ : ∀ x h', sf_I h' → sf_E 0 h h' → sf_iv 0 7 x → (a0.toInt ≤ 63 → x.toInt ≤ 6) → Q (some (.inl (.int x))) h') : mx_C E (mx_fn true) d 211 [.inl (.int a0)] h Q := by
  obtain ⟨k, hk, rfl⟩ := sf_of (b := 127) pa0
  by_cases h6 : k < 64
  · have := sf_b2 k h6
    exact sg211_0 (sf211_4 (b := 6) (by decide) _ k 0 (by omega) rfl (by omega) (fun x hx => hQ x h hI (sf_E0 _ _) ⟨hx.1, Int.le_trans hx.2 (by decide)⟩ (fun _ => hx.2)))
  · have := sf_b2b k (by omega)
    refine sg211_0 (sf211_4 (b := 7) (by decide) _ k 0 (by omega) rfl (by omega) (fun x hx => hQ x h hI (sf_E0 _ _) hx (fun q => ?_)))
    rw [nI_toInt (by omega)] at q
    omega
theorem nI_64 (a b : Nat) : 64 * nI a + nI b = nI (64 * a + b) := by
  rw [show (64 : Int32) = nI 64 from rfl, nI_mul, nI_add]
abbrev sf_mM : Nat := 860061980996276816854057835738282602798711870938105421401595814770096078533181803026256957416297132457984
theorem sf210_60 {s c i : Nat} {h0 : mx_H} (hs : s < 64) (hc : c < 64) (hi : i < 6) (hQ : ∀ x h', sf_I h' → sf_E sf_mM h0 h' → Q (some (.inl (.long x))) h')
    (hrec : ∀ c', c' < 64 → ∀ {h1 : mx_H} {Q1 : Option mx_V → mx_H → Prop}, sf_I h1 → (∀ x h', sf_I h' → sf_E sf_mM h1 h' → Q1 (some (.inl (.long x))) h') → mx_C E (mx_fn true) d 210 [.inr (.inl 105), .inl (.int (nI (s &&& (63 - 2 ^ i)))), .inl (.int (nI c'))] h1 Q1) :
    ∀ (n j : Nat) {h : mx_H} {a5 : Int64} {a7 : Int32}, j + n = 6 → sf_I h → sf_E sf_mM h0 h → mx_T E (mx_fn true) (d + 1) 0 0 210 60 [(0, .inr (.inl 105)), (1, .inl (.int (nI s))), (2, .inl (.int (nI c))), (3, .inl (.int (nI (64 * s + c)))), (4, .inl (.int (nI i))), (5, .inl (.long a5)), (7, .inl (.int a7)), (8, .inl (.int (nI j)))] [] h Q
  | 0, j, h, a5, a7, e, hI, hE => by
    have hv : vp_in (nI (64 * s + c)) 4096 := vp_in_nI (by omega) (by decide)
    refine sg210_60 ⟨fun _ => ⟨hv, hv, hQ _ _ (sf_uL (sf_uI (r := 348) hI rfl (sf_rd (r := 266) hI (.inl 105) 42 rfl rfl) (by decide))) (sf_EL (sf_Eu (r := 348) rfl (by decide) hE))⟩, fun g => absurd ?_ g⟩
    have e : j = 6 := by omega
    subst e
    obtain ⟨N, hN, hr⟩ := sf_of (b := 6) (sf_rd (r := 261) (lo := 0) (hi := 6) hI (.inl 105) 37 rfl rfl)
    rw [hr]
    exact nI_le hN (by decide)
  | n + 1, j, h, a5, a7, e, hI, hE => by
    have hv : vp_in (nI (64 * s + c)) 4096 := vp_in_nI (by omega) (by decide)
    have hj : j < 6 := by omega
    have hm : vp_in (6 * nI i + nI j) 36 := by
      rw [nI_6]
      exact vp_in_nI (by omega) (by decide)
    have ih : ∀ {h : mx_H} {a5 : Int64} {a7 : Int32}, sf_I h → sf_E sf_mM h0 h → mx_T E (mx_fn true) (d + 1) 0 0 210 60 [(0, .inr (.inl 105)), (1, .inl (.int (nI s))), (2, .inl (.int (nI c))), (3, .inl (.int (nI (64 * s + c)))), (4, .inl (.int (nI i))), (5, .inl (.long a5)), (7, .inl (.int a7)), (8, .inl (.int (nI j + 1)))] [] h Q := by
      intro h a5 a7 hI hE
      rw [nI_1]
      exact sf210_60 hs hc hi hQ hrec n (j + 1) (by omega) hI hE
    refine sg210_60 ⟨fun _ => ⟨hv, hv, hQ _ _ (sf_uL (sf_uI (r := 348) hI rfl (sf_rd (r := 266) hI (.inl 105) 42 rfl rfl) (by decide))) (sf_EL (sf_Eu (r := 348) rfl (by decide) hE))⟩, fun _ => ⟨fun _ => ⟨hm, ⟨fun _ => ⟨fun _ => ih hI hE, fun _ => ih hI hE⟩, fun _ => ⟨hm, ?_⟩⟩⟩, fun _ => ih hI hE⟩⟩
    rw [(sf_b5 s hs i hi).1, (sf_b5 c hc j hj).1]
    refine hrec _ (sf_b5 c hc j hj).2.1 hI ?_
    intro x h2 hI2 hE2
    have hE3 : sf_E sf_mM h0 h2 := sf_Et (by decide) hE hE2
    exact hx_l ⟨fun _ => ⟨fun _ => ih hI2 hE3, fun _ => ih hI2 hE3⟩, fun _ => ⟨fun _ => ih hI2 hE3, fun _ => ih hI2 hE3⟩⟩
theorem sf210_36 {s c i : Nat} (hs : s < 64) (hi : i < 6) (hb : s / 2 ^ i % 2 = 1) (hz : ∀ j, j < i → s / 2 ^ j % 2 = 0)
    (hk : mx_T E (mx_fn true) (d + 1) 0 0 210 60 [(0, .inr (.inl 105)), (1, .inl (.int (nI s))), (2, .inl (.int (nI c))), (3, .inl (.int (nI (64 * s + c)))), (4, .inl (.int (nI i))), (5, .inl (.long 0)), (7, .inl (.int 0)), (8, .inl (.int 0))] [] h Q) :
    ∀ (n j : Nat), j + n = i → mx_T E (mx_fn true) (d + 1) 0 0 210 36 [(0, .inr (.inl 105)), (1, .inl (.int (nI s))), (2, .inl (.int (nI c))), (3, .inl (.int (nI (64 * s + c)))), (4, .inl (.int (nI j)))] [] h Q
  | 0, j, e => by
    have e : j = i := by omega
    subst e
    refine sg210_36 ⟨fun _ => hk, fun g => absurd ?_ g⟩
    rw [sf_b4 s hs j hi, hb]
    decide
  | n + 1, j, e => by
    refine sg210_36 ⟨fun g => absurd ?_ g, fun _ => ?_⟩
    · rw [sf_b4 s hs j (by omega), hz j (by omega)]
      decide
    · rw [nI_1]
      exact sf210_36 hs hi hb hz hk n (j + 1) (by omega)
theorem sf210k : ∀ (k s c : Nat), s < 64 → c < 64 → sf_pb s ≤ k → ∀ {h : mx_H} {Q : Option mx_V → mx_H → Prop}, sf_I h → (∀ x h', sf_I h' → sf_E sf_mM h h' → Q (some (.inl (.long x))) h') → mx_C E (mx_fn true) (d + k + 1) 210 [.inr (.inl 105), .inl (.int (nI s)), .inl (.int (nI c))] h Q
  | k, s, c, hs, hc, hp, h, Q, hI, hQ => by
    by_cases h0 : s = 0
    · subst h0
      exact sg210_0 ⟨fun g => absurd (by decide) g, fun _ => hQ _ _ hI (sf_E0 _ _)⟩
    · obtain ⟨i, hi, hb, hz⟩ := sf_b6 s hs h0
      have hv : vp_in (64 * nI s + nI c) 4096 := by
        rw [nI_64]
        exact vp_in_nI (by omega) (by decide)
      obtain ⟨-, e2, e3⟩ := sf_b5 s hs i hi
      have e3 := e3 hb
      match k, hp with
      | 0, hp => omega
      | k + 1, hp =>
        refine sg210_0 ⟨fun _ => ⟨hv, ⟨fun _ => ?_, fun _ => ⟨hv, hQ _ _ hI (sf_E0 _ _)⟩⟩⟩, fun g => absurd (fun q => h0 ((sf_b3 s (by omega)).mp q)) g⟩
        rw [nI_64]
        refine sf210_36 (i := i) hs hi hb hz (sf210_60 hs hc hi hQ (fun c' hc' h1 Q1 hI1 hQ1 => sf210k k _ c' e2 hc' (by omega) hI1 hQ1) 6 0 rfl hI (sf_E0 _ _)) i 0 (Nat.zero_add _)
theorem sf210 {a1 a2 : Int32} (pa1 : sf_iv 0 63 a1) (pa2 : sf_iv 0 63 a2) (hI : sf_I h) (hQ : ∀ x h', sf_I h' → sf_E sf_mM h h' → Q (some (.inl (.long x))) h') : mx_C E (mx_fn true) (d + 8) 210 [.inr (.inl 105), .inl (.int a1), .inl (.int a2)] h Q := by
  obtain ⟨s, hs, rfl⟩ := sf_of (b := 63) pa1
  obtain ⟨c, hc, rfl⟩ := sf_of (b := 63) pa2
  exact sf210k (d := d) 7 s c (by omega) (by omega) (Nat.le_trans (sf_b2 s (by omega)) (by decide)) hI hQ
end SFB
/-! ===== what holds between ints, behind a write ===== -/
/-- the ints of the J regions behind a write -/
theorem sf_jfu {h : mx_H} {a : mx_A} {i r : Nat} {v : Int32} (e : sf_rg a i = r) (hj : sf_jr r = true) (b : mx_A) (j : Nat) : sf_jf (mx_uI h a i v) b j = if b = a ∧ j = i then v.toInt else sf_jf h b j := by
  subst e
  unfold sf_jf
  by_cases q : b = a ∧ j = i
  · rw [if_pos q, q.1, q.2, hj, cond_true]
    exact congrArg Int32.toInt (if_pos ⟨rfl, rfl⟩)
  · rw [if_neg q, show (mx_uI h a i v).2.1 b j = h.2.1 b j from if_neg q]
theorem sf_jfr {h : mx_H} {a : mx_A} {i r : Nat} (e : sf_rg a i = r) (hj : sf_jr r = true) : sf_jf h a i = (h.2.1 a i).toInt := by
  subst e
  unfold sf_jf
  rw [hj, cond_true]
/-- a write to a J region: bounds and what holds between ints must be shown -/
theorem sf_uJ {h : mx_H} {a : mx_A} {i r : Nat} {v : Int32} {lo hi : Int} (hI : sf_I h) (e : sf_rg a i = r) (p : sf_iv lo hi v) (hc : (decide ((sf_bR r).1 ≤ lo) && decide (hi ≤ (sf_bR r).2)) = true) (hJ : sf_J (mx_uI h a i v)) : sf_I (mx_uI h a i v) := by
  subst e
  simp only [Bool.and_eq_true, decide_eq_true_eq] at hc
  refine ⟨fun b j => ?_, hI.2.1, hJ⟩
  by_cases q : b = a ∧ j = i
  · obtain ⟨rfl, rfl⟩ := q
    exact iv_s ⟨Int.le_trans hc.1 p.1, Int.le_trans p.2 hc.2⟩
  · exact iv_e (if_neg q) (hI.1 b j)
/-- bounds and shapes alone, without what holds between ints -/
def sf_B (h : mx_H) : Prop := (∀ a i, sf_iv (sf_bd a i).1 (sf_bd a i).2 (h.2.1 a i)) ∧ (∀ a i b, sf_sr a i = true → h.2.2.2 a i = some b → ∃ j, b = .inr (j, 0))
theorem sf_I.B {h : mx_H} (hI : sf_I h) : sf_B h := ⟨hI.1, hI.2.1⟩
theorem sf_B.I {h : mx_H} (hB : sf_B h) (hJ : sf_J h) : sf_I h := ⟨hB.1, hB.2, hJ⟩
theorem sf_rdB {h : mx_H} {r : Nat} {lo hi : Int} (hB : sf_B h) (a : mx_A) (i : Nat) (e : sf_rg a i = r) (e2 : sf_bR r = (lo, hi)) : sf_iv lo hi (h.2.1 a i) := by
  have p := hB.1 a i
  unfold sf_bd at p
  rw [e, e2] at p
  exact p
theorem sf_uB {h : mx_H} {a : mx_A} {i r : Nat} {v : Int32} {lo hi : Int} (hB : sf_B h) (e : sf_rg a i = r) (p : sf_iv lo hi v) (hc : (decide ((sf_bR r).1 ≤ lo) && decide (hi ≤ (sf_bR r).2)) = true) : sf_B (mx_uI h a i v) := by
  subst e
  simp only [Bool.and_eq_true, decide_eq_true_eq] at hc
  refine ⟨fun b j => ?_, hB.2⟩
  by_cases q : b = a ∧ j = i
  · obtain ⟨rfl, rfl⟩ := q
    exact iv_s ⟨Int.le_trans hc.1 p.1, Int.le_trans p.2 hc.2⟩
  · exact iv_e (if_neg q) (hB.1 b j)
/-! each part hangs on its own cells alone -/
theorem sf_J1_c {f g : mx_A → Nat → Int} (e : ∀ j o i, (o = 0 ∨ o = 5 ∨ o = 6) → g (.inr (j, o)) i = f (.inr (j, o)) i) (h : sf_J1 f) : sf_J1 g := by
  intro j k hk
  rw [e j 0 6 (Or.inl rfl)] at hk
  rw [e j 0 0 (Or.inl rfl), e j 5 k (Or.inr (Or.inl rfl)), e j 6 k (Or.inr (Or.inr rfl))]
  exact h j k hk
theorem sf_J2_c {f g : mx_A → Nat → Int} (e0 : g (.inl 60) 1 = f (.inl 60) 1) (e1 : ∀ i, g (.inl 61) i = f (.inl 61) i) (e2 : ∀ i, g (.inl 62) i = f (.inl 62) i) (h : sf_J2 f) : sf_J2 g := by
  intro k hk q
  rw [e0] at hk
  rw [e1] at q
  rw [e2]
  exact h k hk q
theorem sf_J3_c {f g : mx_A → Nat → Int} (e0 : g (.inl 84) 0 = f (.inl 84) 0) (e1 : g (.inl 84) 1 = f (.inl 84) 1) (e2 : ∀ i, g (.inl 86) i = f (.inl 86) i) (e3 : ∀ i, g (.inl 87) i = f (.inl 87) i) (h : sf_J3 f) : sf_J3 g := by
  unfold sf_J3
  rw [e0, e1]
  refine ⟨h.1, fun k hk q => ?_⟩
  rw [e2] at q
  rw [e3]
  exact h.2 k hk q
theorem sf_J4_c {f g : mx_A → Nat → Int} {R : mx_A → Nat → Option mx_A} {n : Nat} (e : g (.inl 0) 2 = f (.inl 0) 2) (h : sf_J4 f R n) : sf_J4 g R n := by
  obtain ⟨m, h1, h2, h3⟩ := h
  exact ⟨m, h1, h2, e.trans h3.1, h3.2⟩
theorem sf_JR_c {f g : mx_A → Nat → Int} (e : ∀ n i, 105 ≤ n → g (.inl n) i = f (.inl n) i) (h : sf_JR f) : sf_JR g := by
  have e105 : ∀ i, g (.inl 105) i = f (.inl 105) i := fun i => e 105 i (by decide)
  have e106 : ∀ i, g (.inl 106) i = f (.inl 106) i := fun i => e 106 i (by decide)
  have e107 : ∀ i, g (.inl 107) i = f (.inl 107) i := fun i => e 107 i (by decide)
  have e111 : ∀ i, g (.inl 111) i = f (.inl 111) i := fun i => e 111 i (by decide)
  have e113 : ∀ i, g (.inl 113) i = f (.inl 113) i := fun i => e 113 i (by decide)
  have e117 : ∀ i, g (.inl 117) i = f (.inl 117) i := fun i => e 117 i (by decide)
  have e123 : ∀ i, g (.inl 123) i = f (.inl 123) i := fun i => e 123 i (by decide)
  have e124 : ∀ i, g (.inl 124) i = f (.inl 124) i := fun i => e 124 i (by decide)
  have e125 : ∀ i, g (.inl 125) i = f (.inl 125) i := fun i => e 125 i (by decide)
  have e126 : ∀ i, g (.inl 126) i = f (.inl 126) i := fun i => e 126 i (by decide)
  unfold sf_JR sf_K1 sf_K2 sf_K3 sf_K4 sf_K5 at *
  simp only [e105, e106, e107, e111, e113, e117, e123, e124, e125, e126]
  exact h
theorem sf_JC_c {f g : mx_A → Nat → Int} {R : mx_A → Nat → Option mx_A} {n : Nat} (e : ∀ k i, k < 105 → g (.inl k) i = f (.inl k) i) (e2 : ∀ q i, g (.inr q) i = f (.inr q) i) (h : sf_JC f R n) : sf_JC g R n :=
  ⟨sf_J1_c (fun j o i _ => e2 (j, o) i) h.1, sf_J2_c (e _ _ (by decide)) (fun i => e _ i (by decide)) (fun i => e _ i (by decide)) h.2.1, sf_J3_c (e _ _ (by decide)) (e _ _ (by decide)) (fun i => e _ i (by decide)) (fun i => e _ i (by decide)) h.2.2.1, sf_J4_c (e _ _ (by decide)) h.2.2.2⟩
/-! ===== by hand: what writes where more is known than bounds ===== -/
theorem sf_jf_o {h : mx_H} {a : mx_A} {i : Nat} {v : Int32} {b : mx_A} {j : Nat} (hne : ¬ (b = a ∧ j = i)) : sf_jf (mx_uI h a i v) b j = sf_jf h b j := by
  unfold sf_jf
  rw [show (mx_uI h a i v).2.1 b j = h.2.1 b j from if_neg hne]
/-- a write to the list of strokes -/
theorem sf_Jw2 {h : mx_H} {n i : Nat} {v : Int32} (hn : n = 60 ∨ n = 61 ∨ n = 62) (hJ : sf_J h) (h2 : sf_J2 (sf_jf (mx_uI h (.inl n) i v))) : sf_J (mx_uI h (.inl n) i v) := by
  have o : ∀ k j, k ≠ n → sf_jf (mx_uI h (.inl n) i v) (.inl k) j = sf_jf h (.inl k) j := fun k j hk => sf_jf_o (fun q => hk (Sum.inl.inj q.1))
  refine ⟨⟨sf_J1_c (fun j q k _ => sf_jf_o (fun q => by cases q.1)) hJ.1.1, h2, ?_, ?_⟩, sf_JR_c (fun k j hk => o k j (by omega)) hJ.2⟩
  · exact sf_J3_c (o _ _ (by omega)) (o _ _ (by omega)) (fun j => o _ j (by omega)) (fun j => o _ j (by omega)) hJ.1.2.2.1
  · exact sf_J4_c (o _ _ (by omega)) hJ.1.2.2.2
section SFH
variable {E : mx_Ev} {d : Nat} {h : mx_H} {Q : Option mx_V → mx_H → Prop}
theorem sf124 (hI : sf_I h) (hQ : ∀ x h', sf_I h' → sf_E 2961817721679848385985212583086110512513024 h h' → sf_iv 0 6 x → Q (some (.inl (.int x))) h') : mx_C E (mx_fn true) d 124 [.inr (.inl 0)] h Q := by
  have J2 : sf_J2 (sf_jf (mx_uI h (.inl 60) 1 0)) := by
    intro k hk
    rw [sf_jfu (r := 137) rfl rfl, if_pos ⟨rfl, rfl⟩, show (0 : Int32).toInt = 0 from rfl] at hk
    omega
  have hI1 : sf_I (mx_uI h (.inl 60) 1 0) := sf_uJ (r := 137) hI rfl (iv_k (n := 0) rfl) (by decide) (sf_Jw2 (Or.inl rfl) hI.2.2 J2)
  exact sg124_0 (hQ _ _ (sf_uI (r := 141) hI1 rfl (iv_k (n := 0) rfl) (by decide)) (sf_Eu (r := 141) rfl (by decide) (sf_Eu (r := 137) rfl (by decide) (sf_E0 _ _))) (sf_rd (r := 137) hI (.inl 60) 1 rfl rfl))
theorem sf44 {a1 a2 a3 : Int32} (pa1 : sf_iv 3 4 a1) (pa2 : sf_iv 0 14 a2) (pa3 : sf_iv 1 3 a3) (r0 : ¬ a1.toInt = 3 ∨ a2.toInt ≤ 5) (hI : sf_I h) (hQ : ∀ h', sf_I h' → sf_E 4995541149042723104197294140872238042663878656 h h' → Q none h') : mx_C E (mx_fn true) d 44 [.inr (.inl 60), .inl (.int a1), .inl (.int a2), .inl (.int a3)] h Q := by
  obtain ⟨N, hN, hs⟩ := sf_of (b := 6) (sf_rd (r := 137) (lo := 0) (hi := 6) hI (.inl 60) 1 rfl rfl)
  refine sg44_0 ⟨fun g => ?_, fun _ => hQ _ hI (sf_E0 _ _)⟩
  have hN5 : N < 6 := by
    rw [hs] at g
    have := Int32.lt_iff_toInt_lt.mp g
    rw [nI_toInt (by omega), show (6 : Int32).toInt = 6 from rfl] at this
    omega
  have hv : vp_in (h.2.1 (.inl 60) 1) 6 := by
    rw [hs]
    exact vp_in_nI hN5 (by decide)
  have hc : (h.2.1 (.inl 60) 1).toNatClampNeg = N := by
    rw [hs]
    exact nI_clamp (by omega)
  have hf : ∀ h' : mx_H, h'.2.1 (.inl 60) 1 = nI N → sf_jf h' (.inl 60) 1 = N := fun h' e => by
    rw [sf_jfr (r := 137) rfl rfl, e, nI_toInt (by omega)]
  refine ⟨hv, hv, hv, ?_⟩
  -- what stands at N does not matter as long as N strokes are told
  have s1 : (mx_uI h (.inl 61) N a1).2.1 (.inl 60) 1 = nI N := hs
  have I1 : sf_I (mx_uI h (.inl 61) N a1) := by
    refine sf_uJ (r := 149) hI rfl pa1 (by decide) (sf_Jw2 (Or.inr (Or.inl rfl)) hI.2.2 ?_)
    intro k hk q
    rw [hf _ s1] at hk
    rw [sf_jf_o (fun q => by have := q.2; omega)] at q
    rw [sf_jf_o (fun q => by cases q.1)]
    exact hI.2.2.1.2.1 k (by rw [hf h hs]; exact hk) q
  have s2 : (mx_uI (mx_uI h (.inl 61) N a1) (.inl 62) N a2).2.1 (.inl 60) 1 = nI N := hs
  have I2 : sf_I (mx_uI (mx_uI h (.inl 61) N a1) (.inl 62) N a2) := by
    refine sf_uJ (r := 150) I1 rfl pa2 (by decide) (sf_Jw2 (Or.inr (Or.inr rfl)) I1.2.2 ?_)
    intro k hk q
    rw [hf _ s2] at hk
    rw [sf_jf_o (fun q => by cases q.1)] at q
    rw [sf_jf_o (fun q => by have := q.2; omega)]
    exact I1.2.2.1.2.1 k (by rw [hf _ s1]; exact hk) q
  have I3 : sf_I (mx_uI (mx_uI (mx_uI h (.inl 61) N a1) (.inl 62) N a2) (.inl 63) N a3) := sf_uI (r := 151) I2 rfl pa3 (by decide)
  have s3 : (mx_uI (mx_uI (mx_uI h (.inl 61) N a1) (.inl 62) N a2) (.inl 63) N a3).2.1 (.inl 60) 1 = nI N := hs
  have I4 : sf_I (mx_uI (mx_uI (mx_uI (mx_uI h (.inl 61) N a1) (.inl 62) N a2) (.inl 63) N a3) (.inl 60) 1 (nI N + 1)) := by
    rw [nI_1]
    refine sf_uJ (r := 137) (lo := 0) (hi := 6) I3 rfl (sf_nI (by omega) (by decide)) (by decide) (sf_Jw2 (Or.inl rfl) I3.2.2 ?_)
    intro k hk q
    rw [sf_jfu (r := 137) rfl rfl, if_pos ⟨rfl, rfl⟩, nI_toInt (by omega)] at hk
    rw [sf_jf_o (fun q => by cases q.1)] at q ⊢
    by_cases hkN : k = N
    · subst hkN
      rw [sf_jf_o (fun q => by cases q.1), sf_jf_o (fun q => by cases q.1), sf_jfu (r := 149) rfl rfl, if_pos ⟨rfl, rfl⟩] at q
      rw [sf_jf_o (fun q => by cases q.1), sf_jfu (r := 150) rfl rfl, if_pos ⟨rfl, rfl⟩]
      rcases r0 with r0 | r0
      · exact absurd q r0
      · exact r0
    · exact I3.2.2.1.2.1 k (by rw [hf _ s3]; omega) q
  have K := hQ _ I4 (sf_Eu (r := 137) rfl (by decide) (sf_Eu (r := 151) rfl (by decide) (sf_Eu (r := 150) rfl (by decide) (sf_Eu (r := 149) rfl (by decide) (sf_E0 _ _)))))
  rw [show ((mx_uI h (.inl 61) (Int32.toNatClampNeg (h.2.1 (.inl 60) 1)) a1).2.1 (.inl 60) 1) = h.2.1 (.inl 60) 1 from rfl]
  show Q none (mx_uI (mx_uI (mx_uI (mx_uI h (.inl 61) (Int32.toNatClampNeg (h.2.1 (.inl 60) 1)) a1) (.inl 62) (Int32.toNatClampNeg (h.2.1 (.inl 60) 1)) a2) (.inl 63) (Int32.toNatClampNeg (h.2.1 (.inl 60) 1)) a3) (.inl 60) 1 (h.2.1 (.inl 60) 1 + 1))
  rw [hc, hs]
  exact K
/-- a told stroke of HEAVY names a corner -/
theorem sf_j2x {k : Int32} (hI : sf_I h) (h0 : 0 ≤ k.toInt) (hk : k.toInt < (h.2.1 (.inl 60) 1).toInt) : ¬ (h.2.1 (.inl 61) k.toNatClampNeg).toInt = 3 ∨ (h.2.1 (.inl 62) k.toNatClampNeg).toInt ≤ 5 := by
  by_cases q : (h.2.1 (.inl 61) k.toNatClampNeg).toInt = 3
  · refine Or.inr ?_
    have hj := hI.2.2.1.2.1 k.toNatClampNeg (by
      rw [sf_jfr (r := 137) rfl rfl]
      show ((k.toInt.toNat : Nat) : Int) < _
      omega) (by rw [sf_jfr (r := 149) rfl rfl]; exact q)
    rw [sf_jfr (r := 150) rfl rfl] at hj
    exact hj
  · exact Or.inl q
end SFH
/-! ===== writes where more is known than bounds, one by one ===== -/
theorem sf_ir {j j' o o' : Nat} (q : (Sum.inr (j, o) : mx_A) = .inr (j', o')) : j = j' ∧ o = o' := by
  injection q with t
  injection t with t1 t2
  exact ⟨t1, t2⟩
theorem sf_Jg1 {h h' : mx_H} (o : ∀ k i, sf_jf h' (.inl k) i = sf_jf h (.inl k) i) (eR : h'.2.2.2 = h.2.2.2) (en : h'.1 = h.1) (hJ : sf_J h) (h1 : sf_J1 (sf_jf h')) : sf_J h' := by
  unfold sf_J
  rw [eR, en]
  exact ⟨⟨h1, sf_J2_c (o _ _) (fun j => o _ j) (fun j => o _ j) hJ.1.2.1, sf_J3_c (o _ _) (o _ _) (fun j => o _ j) (fun j => o _ j) hJ.1.2.2.1, sf_J4_c (o _ _) hJ.1.2.2.2⟩, sf_JR_c (fun k j _ => o k j) hJ.2⟩
/-- a shape without corners and pieces -/
theorem sf_Jcl {h : mx_H} {j : Nat} (hJ : sf_J h) : sf_J (mx_uI (mx_uI h (.inr (j, 0)) 0 0) (.inr (j, 0)) 6 0) := by
  refine sf_Jg1 (h := h) (fun k i => (sf_jf_o (fun q => by cases q.1)).trans (sf_jf_o (fun q => by cases q.1))) rfl rfl hJ ?_
  intro j' k hk
  by_cases e : j' = j
  · subst e
    rw [sf_jfu (r := 385) rfl rfl, if_pos ⟨rfl, rfl⟩, show (0 : Int32).toInt = 0 from rfl] at hk
    omega
  · have n0 : ∀ o i, sf_jf (mx_uI (mx_uI h (.inr (j, 0)) 0 0) (.inr (j, 0)) 6 0) (.inr (j', o)) i = sf_jf h (.inr (j', o)) i := fun o i => (sf_jf_o (fun q => e (sf_ir q.1).1)).trans (sf_jf_o (fun q => e (sf_ir q.1).1))
    rw [n0] at hk
    rw [n0, n0, n0]
    exact hJ.1.1 j' k hk
/-- more corners -/
theorem sf_Jup {h : mx_H} {j : Nat} {v : Int32} (hJ : sf_J h) (hv : (h.2.1 (.inr (j, 0)) 0).toInt ≤ v.toInt) : sf_J (mx_uI h (.inr (j, 0)) 0 v) := by
  refine sf_Jg1 (h := h) (fun k i => sf_jf_o (fun q => by cases q.1)) rfl rfl hJ ?_
  intro j' k hk
  rw [sf_jf_o (fun q => by cases q.2)] at hk
  rw [sf_jf_o (b := .inr (j', 5)) (fun q => by have := (sf_ir q.1).2; omega), sf_jf_o (b := .inr (j', 6)) (fun q => by have := (sf_ir q.1).2; omega)]
  have p := hJ.1.1 j' k hk
  have e2 : sf_jf h (.inr (j', 0)) 0 ≤ sf_jf (mx_uI h (.inr (j, 0)) 0 v) (.inr (j', 0)) 0 := by
    by_cases e : j' = j
    · subst e
      rw [sf_jfu (r := 379) rfl rfl, if_pos ⟨rfl, rfl⟩, sf_jfr (r := 379) rfl rfl]
      exact hv
    · rw [sf_jf_o (fun q => e (sf_ir q.1).1)]
      exact Int.le_refl _
  exact ⟨Int.lt_of_lt_of_le p.1 e2, Int.lt_of_lt_of_le p.2 e2⟩
/-- what lies behind the pieces does not matter -/
theorem sf_Jat {h : mx_H} {j o i : Nat} {v : Int32} (ho : o = 5 ∨ o = 6) (hJ : sf_J h) (hi : (h.2.1 (.inr (j, 0)) 6).toInt ≤ i) : sf_J (mx_uI h (.inr (j, o)) i v) := by
  refine sf_Jg1 (h := h) (fun k i => sf_jf_o (fun q => by cases q.1)) rfl rfl hJ ?_
  have z : ∀ j' i', sf_jf (mx_uI h (.inr (j, o)) i v) (.inr (j', 0)) i' = sf_jf h (.inr (j', 0)) i' := fun j' i' => sf_jf_o (fun q => by have := (sf_ir q.1).2; omega)
  intro j' k hk
  rw [z] at hk
  have y : ∀ o', sf_jf (mx_uI h (.inr (j, o)) i v) (.inr (j', o')) k = sf_jf h (.inr (j', o')) k := fun o' => sf_jf_o (fun q => by
    have e1 := (sf_ir q.1).1
    subst e1
    rw [sf_jfr (r := 385) rfl rfl] at hk
    have := q.2
    omega)
  rw [z, y, y]
  exact hJ.1.1 j' k hk
/-- more pieces -/
theorem sf_Jpp {h : mx_H} {j : Nat} {v : Int32} (hJ : sf_J h) (hv : ∀ k : Nat, (h.2.1 (.inr (j, 0)) 6).toInt ≤ k → (k : Int) < v.toInt → (h.2.1 (.inr (j, 5)) k).toInt < (h.2.1 (.inr (j, 0)) 0).toInt ∧ (h.2.1 (.inr (j, 6)) k).toInt < (h.2.1 (.inr (j, 0)) 0).toInt) : sf_J (mx_uI h (.inr (j, 0)) 6 v) := by
  refine sf_Jg1 (h := h) (fun k i => sf_jf_o (fun q => by cases q.1)) rfl rfl hJ ?_
  intro j' k hk
  rw [sf_jf_o (b := .inr (j', 0)) (fun q => by cases q.2), sf_jf_o (b := .inr (j', 5)) (fun q => by have := (sf_ir q.1).2; omega), sf_jf_o (b := .inr (j', 6)) (fun q => by have := (sf_ir q.1).2; omega)]
  by_cases e : j' = j
  · subst e
    rw [sf_jfu (r := 385) rfl rfl, if_pos ⟨rfl, rfl⟩] at hk
    by_cases g : (k : Int) < (h.2.1 (.inr (j', 0)) 6).toInt
    · exact hJ.1.1 j' k (by rw [sf_jfr (r := 385) rfl rfl]; exact g)
    · have := hv k (by omega) hk
      rw [sf_jfr (a := .inr (j', 0)) (r := 379) rfl rfl, sf_jfr (a := .inr (j', 5)) (r := 396) rfl rfl, sf_jfr (a := .inr (j', 6)) (r := 397) rfl rfl]
      exact this
  · rw [sf_jf_o (fun q => e (sf_ir q.1).1)] at hk
    exact hJ.1.1 j' k hk
theorem sf_JwR {h : mx_H} {n i : Nat} {v : Int32} (hn : 105 ≤ n) (hJ : sf_J h) (hR : sf_JR (sf_jf (mx_uI h (.inl n) i v))) : sf_J (mx_uI h (.inl n) i v) :=
  ⟨sf_JC_c (fun k i hk => sf_jf_o (fun q => by have := Sum.inl.inj q.1; omega)) (fun q i => sf_jf_o (fun q => by cases q.1)) hJ.1, hR⟩
/-- what lies behind the shapes does not matter -/
theorem sf_Kb {h : mx_H} {n i : Nat} {v : Int32} (hI : sf_I h) (hn : n = 106 ∧ (h.2.1 (.inl 105) 1).toInt ≤ i ∨ n = 107 ∧ 6 * (h.2.1 (.inl 105) 1).toInt ≤ i ∨ (n = 111 ∨ n = 113) ∧ 36 * (h.2.1 (.inl 105) 1).toInt ≤ i) : sf_J (mx_uI h (.inl n) i v) := by
  have o : ∀ n' i', ¬ (n' = n ∧ i' = i) → sf_jf (mx_uI h (.inl n) i v) (.inl n') i' = sf_jf h (.inl n') i' := fun n' i' hne => sf_jf_o (fun q => hne ⟨Sum.inl.inj q.1, q.2⟩)
  obtain ⟨k1, k2, k3, k4, k5⟩ := hI.2.2.2
  have s0 : sf_jf h (.inl 105) 1 = (h.2.1 (.inl 105) 1).toInt := sf_jfr (r := 225) rfl rfl
  rw [← s0] at hn
  have c6 : ∀ s, sf_jf h (.inl 106) s ≤ 6 := fun s => by
    rw [sf_jfr (r := 318) rfl rfl]
    exact (sf_rd (r := 318) (lo := 0) (hi := 6) hI (.inl 106) s rfl rfl).2
  have e105 : ∀ i', sf_jf (mx_uI h (.inl n) i v) (.inl 105) i' = sf_jf h (.inl 105) i' := fun i' => o _ _ (by omega)
  refine sf_JwR (by omega) hI.2.2 ⟨?_, ?_, ?_, ?_, ?_⟩
  · unfold sf_K1 at *
    rw [e105, e105]
    refine ⟨k1.1, fun k hk => ?_⟩
    rw [o 123 k (by omega), o 124 k (by omega), o 125 k (by omega), o 126 k (by omega)]
    exact k1.2 k hk
  · intro s c hs hc
    rw [e105] at hs
    rw [o 106 s (by omega)] at hc
    have := c6 s
    rw [o 107 _ (by omega)]
    exact k2 s c hs hc
  · intro p hp h0
    rw [e105] at hp
    rw [o 113 p (by omega)] at h0
    rw [o 111 p (by omega)]
    exact k3 p hp h0
  · intro s a b hs ha hb
    rw [e105] at hs
    rw [o 113 _ (by omega), o 113 _ (by omega)]
    exact k4 s a b hs ha hb
  · intro b hb h0
    rw [e105] at hb
    rw [o 117 b (by omega)] at h0 ⊢
    obtain ⟨s, x, y, q1, q2, q3, q4, q5, q6⟩ := k5 b hb h0
    have := c6 s
    refine ⟨s, x, y, q1, ?_, ?_, ?_, q5, ?_⟩
    · rw [e105]
      exact q2
    · rw [o 106 s (by omega)]
      exact q3
    · rw [o 106 s (by omega)]
      exact q4
    · rw [o 113 _ (by omega)]
      exact q6
theorem sf_cl {x : Int32} (h0 : 0 ≤ x.toInt) : ((x.toNatClampNeg : Nat) : Int) = x.toInt := by
  show ((x.toInt.toNat : Nat) : Int) = _
  omega
theorem sf_Kb106 {h : mx_H} {x v : Int32} (hI : sf_I h) (hx : (h.2.1 (.inl 105) 1).toInt ≤ x.toInt) : sf_J (mx_uI h (.inl 106) x.toNatClampNeg v) := by
  have := (sf_rd (r := 225) (lo := 0) (hi := 12) hI (.inl 105) 1 rfl rfl).1
  refine sf_Kb hI (Or.inl ⟨rfl, ?_⟩)
  rw [sf_cl (by omega)]
  exact hx
theorem sf_Kb107 {h : mx_H} {x v : Int32} (hI : sf_I h) (hx : 6 * (h.2.1 (.inl 105) 1).toInt ≤ x.toInt) : sf_J (mx_uI h (.inl 107) x.toNatClampNeg v) := by
  have := (sf_rd (r := 225) (lo := 0) (hi := 12) hI (.inl 105) 1 rfl rfl).1
  refine sf_Kb hI (Or.inr (Or.inl ⟨rfl, ?_⟩))
  rw [sf_cl (by omega)]
  exact hx
theorem sf_Kb111 {h : mx_H} {x v : Int32} (hI : sf_I h) (hx : 36 * (h.2.1 (.inl 105) 1).toInt ≤ x.toInt) : sf_J (mx_uI h (.inl 111) x.toNatClampNeg v) := by
  have := (sf_rd (r := 225) (lo := 0) (hi := 12) hI (.inl 105) 1 rfl rfl).1
  refine sf_Kb hI (Or.inr (Or.inr ⟨Or.inl rfl, ?_⟩))
  rw [sf_cl (by omega)]
  exact hx
theorem sf_Kb113 {h : mx_H} {x v : Int32} (hI : sf_I h) (hx : 36 * (h.2.1 (.inl 105) 1).toInt ≤ x.toInt) : sf_J (mx_uI h (.inl 113) x.toNatClampNeg v) := by
  have := (sf_rd (r := 225) (lo := 0) (hi := 12) hI (.inl 105) 1 rfl rfl).1
  refine sf_Kb hI (Or.inr (Or.inr ⟨Or.inr rfl, ?_⟩))
  rw [sf_cl (by omega)]
  exact hx
/-! ===== class: a further piece ===== -/
theorem sf_ro {h : mx_H} {a b : mx_A} {i k : Nat} {v : Int32} (q : ¬ b = a) : (mx_uI h a i v).2.1 b k = h.2.1 b k := if_neg (fun e => q e.1)
theorem sf_roi {h : mx_H} {a b : mx_A} {i k : Nat} {v : Int32} (q : ¬ k = i) : (mx_uI h a i v).2.1 b k = h.2.1 b k := if_neg (fun e => q e.2)
theorem sf_rs {h : mx_H} {a : mx_A} {i : Nat} {v : Int32} : (mx_uI h a i v).2.1 a i = v := if_pos ⟨rfl, rfl⟩
theorem sf_r5 {h : mx_H} {j j' i k : Nat} {v : Int32} : (mx_uI h (.inr (j, 5)) i v).2.1 (.inr (j', 0)) k = h.2.1 (.inr (j', 0)) k := sf_ro (fun q => by have := (sf_ir q).2; omega)
theorem sf_r6 {h : mx_H} {j j' i k : Nat} {v : Int32} : (mx_uI h (.inr (j, 6)) i v).2.1 (.inr (j', 0)) k = h.2.1 (.inr (j', 0)) k := sf_ro (fun q => by have := (sf_ir q).2; omega)
theorem sf_r7 {h : mx_H} {j j' i k : Nat} {v : Int32} : (mx_uI h (.inr (j, 7)) i v).2.1 (.inr (j', 0)) k = h.2.1 (.inr (j', 0)) k := sf_ro (fun q => by have := (sf_ir q).2; omega)
theorem sf_r8 {h : mx_H} {j j' i k : Nat} {v : Int32} : (mx_uI h (.inr (j, 8)) i v).2.1 (.inr (j', 0)) k = h.2.1 (.inr (j', 0)) k := sf_ro (fun q => by have := (sf_ir q).2; omega)
theorem sf_oo {j j' o o' : Nat} (q : ¬ o = o') : ¬ (Sum.inr (j, o) : mx_A) = .inr (j', o') := fun e => q (sf_ir e).2
section SFP
variable {E : mx_Ev} {d : Nat} {h : mx_H} {Q : Option mx_V → mx_H → Prop}
theorem sf63 {t0 : Nat} {a1 a2 a3 : Int32} (pa1 : sf_iv 0 5 a1) (pa2 : sf_iv 0 5 a2) (pa3 : sf_iv 0 9 a3) (r0 : a1.toInt < (h.2.1 (.inr (t0, 0)) 0).toInt) (r1 : a2.toInt < (h.2.1 (.inr (t0, 0)) 0).toInt) (hI : sf_I h) (hQ : ∀ h', sf_I h' → sf_E 2420938064718869591760848781833023919411709340255937974172079043343665637084331614386515347232638986802440836980431388672 h h' → ((h.2.1 (.inr (t0, 0)) 6).toInt < 15 → (h'.2.1 (.inr (t0, 0)) 6).toInt = (h.2.1 (.inr (t0, 0)) 6).toInt + 1) → Q none h') : mx_C E (mx_fn true) (d + 1) 63 [.inr (.inr (t0, 0)), .inl (.int a1), .inl (.int a2), .inl (.int a3)] h Q := by
  obtain ⟨N, hN, hs⟩ := sf_of (b := 15) (sf_rd (r := 385) (lo := 0) (hi := 15) hI (.inr (t0, 0)) 6 rfl rfl)
  refine sg63_0 ⟨fun g => ?_, fun g => hQ _ hI (sf_E0 _ _) (fun q => absurd (Int32.lt_iff_toInt_lt.mpr q) g)⟩
  have hN5 : N < 15 := by
    rw [hs] at g
    have := Int32.lt_iff_toInt_lt.mp g
    rw [nI_toInt (by omega), show (15 : Int32).toInt = 15 from rfl] at this
    omega
  simp only [sf_r5, sf_r6, sf_r7, sf_r8]
  have hv : vp_in (h.2.1 (.inr (t0, 0)) 6) 15 := by
    rw [hs]
    exact vp_in_nI hN5 (by decide)
  have hc : (h.2.1 (.inr (t0, 0)) 6).toNatClampNeg = N := by
    rw [hs]
    exact nI_clamp (by omega)
  have hp : (h.2.1 (.inr (t0, 0)) 6).toInt = N := by
    rw [hs]
    exact nI_toInt (by omega)
  refine ⟨hv, hv, hv, hv, ?_⟩
  rw [hc]
  generalize hm1 : (if a2 < a1 then a2 else a1) = m1
  generalize hm2 : (if a1 < a2 then a2 else a1) = m2
  have q1 : sf_iv 0 5 m1 ∧ m1.toInt < (h.2.1 (.inr (t0, 0)) 0).toInt := by
    subst hm1
    by_cases c : a2 < a1
    · rw [if_pos c]
      exact ⟨pa2, r1⟩
    · rw [if_neg c]
      exact ⟨pa1, r0⟩
  have q2 : sf_iv 0 5 m2 ∧ m2.toInt < (h.2.1 (.inr (t0, 0)) 0).toInt := by
    subst hm2
    by_cases c : a1 < a2
    · rw [if_pos c]
      exact ⟨pa2, r1⟩
    · rw [if_neg c]
      exact ⟨pa1, r0⟩
  have I1 : sf_I (mx_uI h (.inr (t0, 5)) N m1) := sf_uJ (r := 396) hI rfl q1.1 (by decide) (sf_Jat (Or.inl rfl) hI.2.2 (by omega))
  have I2 : sf_I (mx_uI (mx_uI h (.inr (t0, 5)) N m1) (.inr (t0, 6)) N m2) := sf_uJ (r := 397) I1 rfl q2.1 (by decide) (sf_Jat (Or.inr rfl) I1.2.2 (by rw [sf_r5]; omega))
  have I3 : sf_I (mx_uI (mx_uI (mx_uI h (.inr (t0, 5)) N m1) (.inr (t0, 6)) N m2) (.inr (t0, 7)) N a3) := sf_uI (r := 398) I2 rfl pa3 (by decide)
  have I4 : sf_I (mx_uI (mx_uI (mx_uI (mx_uI h (.inr (t0, 5)) N m1) (.inr (t0, 6)) N m2) (.inr (t0, 7)) N a3) (.inr (t0, 8)) N 0) := sf_uI (r := 399) I3 rfl (iv_k (n := 0) rfl) (by decide)
  have e5 : ((mx_uI (mx_uI (mx_uI (mx_uI h (.inr (t0, 5)) N m1) (.inr (t0, 6)) N m2) (.inr (t0, 7)) N a3) (.inr (t0, 8)) N 0).2.1 (.inr (t0, 5)) N) = m1 := by
    rw [sf_ro (sf_oo (by decide)), sf_ro (sf_oo (by decide)), sf_ro (sf_oo (by decide)), sf_rs]
  have e6 : ((mx_uI (mx_uI (mx_uI (mx_uI h (.inr (t0, 5)) N m1) (.inr (t0, 6)) N m2) (.inr (t0, 7)) N a3) (.inr (t0, 8)) N 0).2.1 (.inr (t0, 6)) N) = m2 := by
    rw [sf_ro (sf_oo (by decide)), sf_ro (sf_oo (by decide)), sf_rs]
  have I5 : sf_I (mx_uI (mx_uI (mx_uI (mx_uI (mx_uI h (.inr (t0, 5)) N m1) (.inr (t0, 6)) N m2) (.inr (t0, 7)) N a3) (.inr (t0, 8)) N 0) (.inr (t0, 0)) 6 (h.2.1 (.inr (t0, 0)) 6 + 1)) := by
    refine sf_uJ (r := 385) (lo := 0) (hi := 15) I4 rfl ?_ (by decide) (sf_Jpp I4.2.2 ?_)
    · rw [hs, nI_1]
      exact sf_nI (by omega) (by decide)
    · intro k hk1 hk2
      rw [sf_r8, sf_r7, sf_r6, sf_r5, hp] at hk1
      rw [hs, nI_1, nI_toInt (by omega)] at hk2
      have : k = N := by omega
      subst this
      rw [e5, e6, sf_r8, sf_r7, sf_r6, sf_r5]
      exact ⟨q1.2, q2.2⟩
  refine hQ _ I5 (sf_Eu (r := 385) rfl (by decide) (sf_Eu (r := 399) rfl (by decide) (sf_Eu (r := 398) rfl (by decide) (sf_Eu (r := 397) rfl (by decide) (sf_Eu (r := 396) rfl (by decide) (sf_E0 _ _)))))) (fun _ => ?_)
  rw [sf_rs, hs, nI_1, nI_toInt (by omega), nI_toInt (by omega)]
  omega
end SFP
/-! ===== reference: setPiece, setStiff, exactly ===== -/
theorem nI_divn {n k : Nat} (hn : n < 2 ^ 31) (hk : 0 < k) (hk2 : k < 2 ^ 31) : nI n / nI k = nI (n / k) := by
  apply Int32.toInt_inj.mp
  rw [li_div (a := 0) (b := 2147483647) (k := (k : Int)) (X := (n : Int)) (x := nI n) (y := nI k) ⟨by rw [nI_toInt hn]; omega, by rw [nI_toInt hn]; omega⟩ (by simp only [Bool.and_eq_true, decide_eq_true_eq]; omega) (nI_toInt hn) (nI_toInt hk2), nI_toInt (Nat.lt_of_le_of_lt (Nat.div_le_self n k) hn)]
  exact (Int.natCast_ediv n k).symm
theorem nI_subn {a b : Nat} (h : b ≤ a) : nI a - nI b = nI (a - b) := by
  have e : nI a = nI (a - b) + nI b := by
    rw [nI_add]
    congr 1
    omega
  rw [e, Int32.add_sub_cancel]
theorem nI_36 (a b c : Nat) : 36 * nI a + 6 * nI b + nI c = nI (36 * a + 6 * b + c) := by
  rw [show (6 : Int32) = nI 6 from rfl, show (36 : Int32) = nI 36 from rfl, nI_mul, nI_mul, nI_add, nI_add]
def sx_p (h : mx_H) (p : Nat) (b s c : Int32) : mx_H := mx_uI (mx_uI (mx_uI h (.inl 113) p b) (.inl 111) p s) (.inl 112) p c
section SXS
variable {E : mx_Ev} {d : Nat} {h : mx_H} {Q : Option mx_V → mx_H → Prop}
theorem sx181 {S A B : Nat} {a4 a5 a6 : Int32} (hS : S ≤ 12) (hA : A ≤ 5) (hB : B ≤ 5) (hQ : Q none (sx_p (sx_p h (36 * S + 6 * A + B) (a4 + 1) a5 a6) (36 * S + 6 * B + A) (a4 + 1) a5 a6)) : mx_C E (mx_fn true) (d + 1) 181 [.inr (.inl 105), .inl (.int (nI S)), .inl (.int (nI A)), .inl (.int (nI B)), .inl (.int a4), .inl (.int a5), .inl (.int a6)] h Q := by
  refine sg181_0 (sg181_3 ⟨fun g => absurd g (by decide), fun _ => ⟨fun g => absurd rfl g, fun _ => sg179_0 (hx_i ?_)⟩⟩)
  rw [nI_36]
  have v1 : vp_in (nI (36 * S + 6 * A + B)) 468 := vp_in_nI (by omega) (by decide)
  refine ⟨v1, v1, v1, sg181_3 ⟨fun g => absurd g (by decide), fun _ => ⟨fun _ => sg179_0 (hx_i ?_), fun g => absurd (by decide) g⟩⟩⟩
  rw [nI_36]
  have v2 : vp_in (nI (36 * S + 6 * B + A)) 468 := vp_in_nI (by omega) (by decide)
  refine ⟨v2, v2, v2, sg181_3 ⟨fun _ => ?_, fun g => absurd (by decide) g⟩⟩
  rw [nI_clamp (by omega), nI_clamp (by omega)]
  exact hQ
theorem sx199 {S A B : Nat} {a2 a3 : Int32} (hS : S ≤ 12) (hA : A ≤ 5) (hB : B ≤ 5) (hQ : Q none (sx_p (sx_p h (36 * S + 6 * A + B) (h.2.1 (.inl 113) (36 * S + 6 * A + B)) a2 a3) (36 * S + 6 * B + A) (h.2.1 (.inl 113) (36 * S + 6 * A + B)) a2 a3)) : mx_C E (mx_fn true) (d + 2) 199 [.inr (.inl 105), .inl (.int (nI (36 * S + 6 * A + B))), .inl (.int a2), .inl (.int a3)] h Q := by
  refine sg199_0 ⟨by decide, by decide, by decide, by decide, vp_in_nI (by omega) (by decide), ?_⟩
  have e1 : nI (36 * S + 6 * A + B) / 36 = nI S := by
    rw [show (36 : Int32) = nI 36 from rfl, nI_divn (by omega) (by decide) (by decide)]
    congr 1
    omega
  have e2 : nI (36 * S + 6 * A + B) / 6 = nI (6 * S + A) := by
    rw [show (6 : Int32) = nI 6 from rfl, nI_divn (by omega) (by decide) (by decide)]
    congr 1
    omega
  have e3 : nI (6 * S + A) - nI (6 * S + A) / 6 * 6 = nI A := by
    rw [show (6 : Int32) = nI 6 from rfl, nI_divn (by omega) (by decide) (by decide), nI_mul, nI_subn (by omega)]
    congr 1
    omega
  have e4 : nI (36 * S + 6 * A + B) - nI (6 * S + A) * 6 = nI B := by
    rw [show (6 : Int32) = nI 6 from rfl, nI_mul, nI_subn (by omega)]
    congr 1
    omega
  rw [e1, e2, e3, e4, nI_clamp (by omega)]
  refine sx181 hS hA hB (hx_n ?_)
  rw [show h.2.1 (.inl 113) (36 * S + 6 * A + B) - 1 + 1 = h.2.1 (.inl 113) (36 * S + 6 * A + B) from Int32.sub_add_cancel _ _]
  exact hQ
end SXS
/-! what the reference's cells say, behind a write to them -/
theorem sf_JRo {h : mx_H} {n i : Nat} {v : Int32} : ∀ n' i', ¬ (n' = n ∧ i' = i) → sf_jf (mx_uI h (.inl n) i v) (.inl n') i' = sf_jf h (.inl n') i' := fun n' i' hne => sf_jf_o (fun q => hne ⟨Sum.inl.inj q.1, q.2⟩)
theorem sf_r1 {h : mx_H} {i : Nat} : sf_jf h (.inl 113) i = (h.2.1 (.inl 113) i).toInt := sf_jfr (r := 325) rfl rfl
theorem sf_r2 {h : mx_H} {i : Nat} : sf_jf h (.inl 111) i = (h.2.1 (.inl 111) i).toInt := sf_jfr (r := 323) rfl rfl
/-- a piece told anew: the same body, still stiff -/
theorem sf_Kp {h : mx_H} {p : Nat} {b s c : Int32} (hI : sf_I h) (hb : h.2.1 (.inl 113) p = b) (ps : sf_iv 0 9 s) (pc : sf_iv 0 9 c) (hs : 0 < b.toInt → 1 ≤ s.toInt) : sf_I (sx_p h p b s c) := by
  have e : mx_uI h (.inl 113) p b = h := by
    have e1 : mx_up h.2.1 (.inl 113) p b = h.2.1 := by
      funext a i
      unfold mx_up
      by_cases q : a = .inl 113 ∧ i = p
      · rw [if_pos q, q.1, q.2, hb]
      · rw [if_neg q]
    show (h.1, mx_up h.2.1 (.inl 113) p b, h.2.2.1, h.2.2.2) = h
    rw [e1]
  unfold sx_p
  rw [e]
  refine sf_uI (r := 324) (sf_uJ (r := 323) hI rfl ps (by decide) (sf_JwR (by decide) hI.2.2 ?_)) rfl pc (by decide)
  obtain ⟨k1, k2, k3, k4, k5⟩ := hI.2.2.2
  have o : ∀ n' i', n' ≠ 111 → sf_jf (mx_uI h (.inl 111) p s) (.inl n') i' = sf_jf h (.inl n') i' := fun n' i' hne => sf_JRo n' i' (by omega)
  refine ⟨?_, ?_, ?_, ?_, ?_⟩
  · unfold sf_K1 at *
    simp only [o 105 _ (by decide), o 123 _ (by decide), o 124 _ (by decide), o 125 _ (by decide), o 126 _ (by decide)]
    exact k1
  · intro s' c' q1 q2
    rw [o _ _ (by decide)] at q1 q2 ⊢
    exact k2 s' c' q1 q2
  · intro p' q1 q2
    rw [o _ _ (by decide)] at q1 q2
    by_cases e : p' = p
    · subst e
      rw [sf_r1, hb] at q2
      rw [sf_r2, sf_rs]
      exact hs q2
    · rw [sf_JRo _ _ (by omega)]
      exact k3 p' q1 q2
  · intro s' a' b' q1 q2 q3
    rw [o _ _ (by decide)] at q1
    rw [o _ _ (by decide), o _ _ (by decide)]
    exact k4 s' a' b' q1 q2 q3
  · unfold sf_K5 at *
    simp only [o 105 _ (by decide), o 106 _ (by decide), o 113 _ (by decide), o 117 _ (by decide)]
    exact k5
