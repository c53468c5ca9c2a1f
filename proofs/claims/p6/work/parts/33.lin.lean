/-! ===== ints as numbers, for linear arithmetic ===== -/
theorem li_add {a b c d X Y : Int} {x y : Int32} (hx : sf_iv a b x) (hy : sf_iv c d y) (hc : iv_cb (a + c) (b + d) (a + c) (b + d) = true) (ex : x.toInt = X) (ey : y.toInt = Y) : (x + y).toInt = X + Y := by
  obtain ⟨-, -, h3, h4⟩ := iv_cb_s hc
  obtain ⟨x1, x2⟩ := hx
  obtain ⟨y1, y2⟩ := hy
  rw [Int32.toInt_add, iv_bm (by omega) (by omega), ex, ey]
theorem li_sub {a b c d X Y : Int} {x y : Int32} (hx : sf_iv a b x) (hy : sf_iv c d y) (hc : iv_cb (a - d) (b - c) (a - d) (b - c) = true) (ex : x.toInt = X) (ey : y.toInt = Y) : (x - y).toInt = X - Y := by
  obtain ⟨-, -, h3, h4⟩ := iv_cb_s hc
  obtain ⟨x1, x2⟩ := hx
  obtain ⟨y1, y2⟩ := hy
  rw [Int32.toInt_sub, iv_bm (by omega) (by omega), ex, ey]
theorem li_mul {b d X Y : Int} {x y : Int32} (hx : sf_iv 0 b x) (hy : sf_iv 0 d y) (hc : iv_cb 0 (b * d) 0 (b * d) = true) (ex : x.toInt = X) (ey : y.toInt = Y) : (x * y).toInt = X * Y := by
  obtain ⟨-, -, h3, h4⟩ := iv_cb_s hc
  obtain ⟨x1, x2⟩ := hx
  obtain ⟨y1, y2⟩ := hy
  have p0 : 0 ≤ x.toInt * y.toInt := Int.mul_nonneg x1 y1
  have p1 : x.toInt * y.toInt ≤ b * d := Int.mul_le_mul x2 y2 y1 (Int.le_trans x1 x2)
  rw [Int32.toInt_mul, iv_bm (by omega) (by omega), ex, ey]
theorem li_div {a b k X : Int} {x y : Int32} (hx : sf_iv a b x) (hc : (decide (0 ≤ a) && decide (0 < k)) = true) (ex : x.toInt = X) (ey : y.toInt = k) : (x / y).toInt = X / k := by
  simp only [Bool.and_eq_true, decide_eq_true_eq] at hc
  obtain ⟨x1, x2⟩ := hx
  have r := (iv_rng x).2
  have q0 : 0 ≤ x.toInt / k := Int.ediv_nonneg (by omega) (by omega)
  have q1 : x.toInt / k ≤ x.toInt := Int.ediv_le_self _ (by omega)
  rw [Int32.toInt_div, ey, Int.tdiv_eq_ediv_of_nonneg (by omega), iv_bm (by omega) (by omega), ex]
theorem li_o {X : Int} {H : mx_H} {a b : mx_A} {i j : Nat} {v : Int32} (hne : b ≠ a) (p : (H.2.1 b j).toInt = X) : ((mx_uI H a i v).2.1 b j).toInt = X := (congrArg Int32.toInt (sp_up_ne hne)).trans p
theorem li_s {X : Int} {H : mx_H} {a : mx_A} {i : Nat} {v : Int32} (p : v.toInt = X) : ((mx_uI H a i v).2.1 a i).toInt = X := (congrArg Int32.toInt (if_pos ⟨rfl, rfl⟩)).trans p
theorem li_g {X : Int} {H : mx_H} {a : mx_A} {i j : Nat} {v : Int32} (hj : j ≠ i) (p : (H.2.1 a j).toInt = X) : ((mx_uI H a i v).2.1 a j).toInt = X := (congrArg Int32.toInt (if_neg (fun q => hj q.2))).trans p
theorem li_L {X : Int} {H : mx_H} {a b : mx_A} {i j : Nat} {v : Int64} (p : (H.2.1 b j).toInt = X) : ((mx_uL H a i v).2.1 b j).toInt = X := p
theorem li_e {X : Int} {x y : Int32} (e : x = y) (p : y.toInt = X) : x.toInt = X := (congrArg Int32.toInt e).trans p
theorem li_lt {x y : Int32} {X Y : Int} (g : x < y) (ex : x.toInt = X) (ey : y.toInt = Y) : X < Y := by
  rw [← ex, ← ey]
  exact Int32.lt_iff_toInt_lt.mp g
theorem li_le {x y : Int32} {X Y : Int} (g : x ≤ y) (ex : x.toInt = X) (ey : y.toInt = Y) : X ≤ Y := by
  rw [← ex, ← ey]
  exact Int32.le_iff_toInt_le.mp g
theorem li_eq {x y : Int32} {X Y : Int} (g : x = y) (ex : x.toInt = X) (ey : y.toInt = Y) : X = Y := by
  rw [← ex, ← ey, g]
theorem li_ne {x y : Int32} {X Y : Int} (g : ¬ x = y) (ex : x.toInt = X) (ey : y.toInt = Y) : ¬ X = Y := by
  rw [← ex, ← ey]
  exact fun e => g (Int32.toInt_inj.mp e)
theorem li_in {x : Int32} {X : Int} {n : Nat} (ex : x.toInt = X) (h : 0 ≤ X ∧ X < n) : vp_in x n := by
  refine sp_vin (Int32.le_iff_toInt_le.mpr ?_) ?_
  · rw [show (0 : Int32).toInt = 0 from rfl]
    omega
  · show x.toInt.toNat < n
    omega
theorem li_iv {x : Int32} {X lo hi : Int} (ex : x.toInt = X) (h : lo ≤ X ∧ X ≤ hi) : sf_iv lo hi x := by
  rw [← ex] at h
  exact h
theorem li_min {x y : Int32} {X Y : Int} (ex : x.toInt = X) (ey : y.toInt = Y) : (if y < x then y else x).toInt ≤ X ∧ (if y < x then y else x).toInt ≤ Y := by
  split
  · next g => have := Int32.lt_iff_toInt_lt.mp g; omega
  · next g => have := Int32.le_iff_toInt_le.mp (Int32.not_lt.mp g); omega
/-! a switch by a table -/
theorem sw_d {P : Nat → Prop} {tgt D : Nat} {z : Int} (hz : z = (tgt : Int)) (hD : z = (D : Int)) (p : P D) : P tgt := by
  have e : tgt = D := by omega
  rw [e]
  exact p
theorem sw_4 {P : Nat → Prop} {x l p0 o0 o1 o2 o3 : Int} {tgt : Nat} (D0 D1 D2 D3 : Nat) (q : l ≤ x ∧ x ≤ l + 3 ∧ ∃ o, (#[o0, o1, o2, o3] : Array Int)[(x - l).toNat]? = some o ∧ p0 + o = (tgt : Int))
    (h0 : x = l → P D0) (h1 : x = l + 1 → P D1) (h2 : x = l + 2 → P D2) (h3 : x = l + 3 → P D3) (e0 : p0 + o0 = (D0 : Int)) (e1 : p0 + o1 = (D1 : Int)) (e2 : p0 + o2 = (D2 : Int)) (e3 : p0 + o3 = (D3 : Int)) : P tgt := by
  obtain ⟨q1, q2, o, ho, hz⟩ := q
  rcases (show x = l ∨ x = l + 1 ∨ x = l + 2 ∨ x = l + 3 by omega) with r | r | r | r
  · rw [show (x - l).toNat = 0 by omega] at ho
    have ho : some o0 = some o := ho
    cases ho
    exact sw_d hz e0 (h0 r)
  · rw [show (x - l).toNat = 1 by omega] at ho
    have ho : some o1 = some o := ho
    cases ho
    exact sw_d hz e1 (h1 r)
  · rw [show (x - l).toNat = 2 by omega] at ho
    have ho : some o2 = some o := ho
    cases ho
    exact sw_d hz e2 (h2 r)
  · rw [show (x - l).toNat = 3 by omega] at ho
    have ho : some o3 = some o := ho
    cases ho
    exact sw_d hz e3 (h3 r)
theorem sw_5 {P : Nat → Prop} {x l p0 o0 o1 o2 o3 o4 : Int} {tgt : Nat} (D0 D1 D2 D3 D4 : Nat) (q : l ≤ x ∧ x ≤ l + 4 ∧ ∃ o, (#[o0, o1, o2, o3, o4] : Array Int)[(x - l).toNat]? = some o ∧ p0 + o = (tgt : Int))
    (h0 : x = l → P D0) (h1 : x = l + 1 → P D1) (h2 : x = l + 2 → P D2) (h3 : x = l + 3 → P D3) (h4 : x = l + 4 → P D4) (e0 : p0 + o0 = (D0 : Int)) (e1 : p0 + o1 = (D1 : Int)) (e2 : p0 + o2 = (D2 : Int)) (e3 : p0 + o3 = (D3 : Int)) (e4 : p0 + o4 = (D4 : Int)) : P tgt := by
  obtain ⟨q1, q2, o, ho, hz⟩ := q
  rcases (show x = l ∨ x = l + 1 ∨ x = l + 2 ∨ x = l + 3 ∨ x = l + 4 by omega) with r | r | r | r | r
  · rw [show (x - l).toNat = 0 by omega] at ho
    have ho : some o0 = some o := ho
    cases ho
    exact sw_d hz e0 (h0 r)
  · rw [show (x - l).toNat = 1 by omega] at ho
    have ho : some o1 = some o := ho
    cases ho
    exact sw_d hz e1 (h1 r)
  · rw [show (x - l).toNat = 2 by omega] at ho
    have ho : some o2 = some o := ho
    cases ho
    exact sw_d hz e2 (h2 r)
  · rw [show (x - l).toNat = 3 by omega] at ho
    have ho : some o3 = some o := ho
    cases ho
    exact sw_d hz e3 (h3 r)
  · rw [show (x - l).toNat = 4 by omega] at ho
    have ho : some o4 = some o := ho
    cases ho
    exact sw_d hz e4 (h4 r)
theorem sw_6 {P : Nat → Prop} {x l p0 o0 o1 o2 o3 o4 o5 : Int} {tgt : Nat} (D0 D1 D2 D3 D4 D5 : Nat) (q : l ≤ x ∧ x ≤ l + 5 ∧ ∃ o, (#[o0, o1, o2, o3, o4, o5] : Array Int)[(x - l).toNat]? = some o ∧ p0 + o = (tgt : Int))
    (h0 : x = l → P D0) (h1 : x = l + 1 → P D1) (h2 : x = l + 2 → P D2) (h3 : x = l + 3 → P D3) (h4 : x = l + 4 → P D4) (h5 : x = l + 5 → P D5) (e0 : p0 + o0 = (D0 : Int)) (e1 : p0 + o1 = (D1 : Int)) (e2 : p0 + o2 = (D2 : Int)) (e3 : p0 + o3 = (D3 : Int)) (e4 : p0 + o4 = (D4 : Int)) (e5 : p0 + o5 = (D5 : Int)) : P tgt := by
  obtain ⟨q1, q2, o, ho, hz⟩ := q
  rcases (show x = l ∨ x = l + 1 ∨ x = l + 2 ∨ x = l + 3 ∨ x = l + 4 ∨ x = l + 5 by omega) with r | r | r | r | r | r
  · rw [show (x - l).toNat = 0 by omega] at ho
    have ho : some o0 = some o := ho
    cases ho
    exact sw_d hz e0 (h0 r)
  · rw [show (x - l).toNat = 1 by omega] at ho
    have ho : some o1 = some o := ho
    cases ho
    exact sw_d hz e1 (h1 r)
  · rw [show (x - l).toNat = 2 by omega] at ho
    have ho : some o2 = some o := ho
    cases ho
    exact sw_d hz e2 (h2 r)
  · rw [show (x - l).toNat = 3 by omega] at ho
    have ho : some o3 = some o := ho
    cases ho
    exact sw_d hz e3 (h3 r)
  · rw [show (x - l).toNat = 4 by omega] at ho
    have ho : some o4 = some o := ho
    cases ho
    exact sw_d hz e4 (h4 r)
  · rw [show (x - l).toNat = 5 by omega] at ho
    have ho : some o5 = some o := ho
    cases ho
    exact sw_d hz e5 (h5 r)
theorem iv_is {n : Int} {x : Int32} (h : x.toInt = n) : sf_iv n n x := iv_k h
theorem iv_shl_k : ∀ k : Nat, k < 31 → ((1 : Int32) <<< (nI k &&& 31)).toInt = ((2 ^ k : Nat) : Int) := by decide +kernel
theorem iv_shl1 {a b lo hi : Int} {x : Int32} (p : sf_iv a b x) (hc : (decide (0 ≤ a) && (decide (b ≤ 30) && (decide (lo ≤ ((2 ^ a.toNat : Nat) : Int)) && decide (((2 ^ b.toNat : Nat) : Int) ≤ hi)))) = true) : sf_iv lo hi (1 <<< (x &&& 31)) := by
  simp only [Bool.and_eq_true, decide_eq_true_eq] at hc
  obtain ⟨h1, h2, h3, h4⟩ := hc
  obtain ⟨p1, p2⟩ := p
  obtain ⟨k, hk, rfl⟩ := sf_of (b := 30) (x := x) ⟨by omega, by omega⟩
  rw [nI_toInt (by omega)] at p1 p2
  have e := iv_shl_k k (by omega)
  have m1 : 2 ^ a.toNat ≤ 2 ^ k := Nat.pow_le_pow_right (by decide) (by omega)
  have m2 : 2 ^ k ≤ 2 ^ b.toNat := Nat.pow_le_pow_right (by decide) (by omega)
  unfold sf_iv
  rw [e]
  exact ⟨Int.le_trans h3 (Int.ofNat_le.mpr m1), Int.le_trans (Int.ofNat_le.mpr m2) h4⟩
theorem iv_and2 {b lo hi : Int} {x y : Int32} (hx : sf_iv 0 b x) (hc : (decide (lo ≤ 0) && decide (b ≤ hi)) = true) : sf_iv lo hi (x &&& y) := by
  simp only [Bool.and_eq_true, decide_eq_true_eq] at hc
  have p := iv_and (x := y) (y := x) (m := x.toInt) rfl (by rw [decide_eq_true_eq]; exact hx.1)
  have e : x &&& y = y &&& x := by
    apply Int32.toBitVec_inj.mp
    rw [Int32.toBitVec_and, Int32.toBitVec_and, BitVec.and_comm]
  rw [e]
  exact ⟨Int.le_trans hc.1 p.1, Int.le_trans p.2 (Int.le_trans hx.2 hc.2)⟩
theorem iv_nat {b : Int} {x : Int32} (hx : sf_iv 0 b x) : x.toInt = (x.toBitVec.toNat : Int) := by
  have h0 : x.toInt = x.toBitVec.toInt := rfl
  have h1 := hx.1
  rw [h0, BitVec.toInt_eq_toNat_cond] at h1
  rw [h0, BitVec.toInt_eq_toNat_cond]
  split at h1
  · rw [if_pos (by assumption)]
  · have := x.toBitVec.isLt
    omega
theorem iv_or {m : Int} {k : Nat} {x y : Int32} (hk : (decide (m + 1 = ((2 ^ k : Nat) : Int)) && decide (k ≤ 31)) = true) (hx : sf_iv 0 m x) (hy : sf_iv 0 m y) : sf_iv 0 m (x ||| y) := by
  simp only [Bool.and_eq_true, decide_eq_true_eq] at hk
  have ex := iv_nat hx
  have ey := iv_nat hy
  obtain ⟨x1, x2⟩ := hx
  obtain ⟨y1, y2⟩ := hy
  have hl : (x ||| y).toBitVec.toNat < 2 ^ k := by
    rw [Int32.toBitVec_or, BitVec.toNat_or]
    exact Nat.or_lt_two_pow (by omega) (by omega)
  have h31 : 2 ^ k ≤ 2 ^ 31 := Nat.pow_le_pow_right (by decide) hk.2
  have e : (x ||| y).toInt = ((x ||| y).toBitVec.toNat : Int) := by
    show (x ||| y).toBitVec.toInt = _
    rw [BitVec.toInt_eq_toNat_cond, if_pos (by omega)]
  exact ⟨by omega, by omega⟩
