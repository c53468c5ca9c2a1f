/-! ===== 84x6: sign changes never fall as a table of six rows is less by d v v ===== -/
section MX6
variable {A A' : Nat → Nat → Int} {x y u v w : Nat → Int} {n : Nat} {B B' : Nat → Nat → Int} {d : Int}
def d3 (U X Y W p1 p2 : Int) : Int := U * (X * Y) - U * (W * W) - p1 * p1 * Y + 2 * (p2 * (p1 * W)) - X * (p2 * p2)
def d4 (Z q1 q2 q3 U X Y W p1 p2 : Int) : Int := Z * d3 U X Y W p1 p2 - (q1 * q1 * (X * Y - W * W) + q2 * q2 * (U * Y - p2 * p2) + q3 * q3 * (U * X - p1 * p1)) + 2 * (q1 * q2 * (p1 * Y - p2 * W) + q1 * q3 * (p2 * X - p1 * W) + q2 * q3 * (W * U - p1 * p2))
theorem d3_s {Z U X Y W p1 p2 : Int} : d3 (Z * U) (Z * X) (Z * Y) (Z * W) (Z * p1) (Z * p2) = Z * Z * Z * d3 U X Y W p1 p2 := by
  unfold d3
  grind
set_option maxHeartbeats 4000000 in
theorem d34 {Z q1 q2 q3 U X Y W p1 p2 : Int} : d3 (Z * U - q1 * q1) (Z * X - q2 * q2) (Z * Y - q3 * q3) (Z * W - q2 * q3) (Z * p1 - q1 * q2) (Z * p2 - q1 * q3) = Z * Z * d4 Z q1 q2 q3 U X Y W p1 p2 := by
  unfold d4 d3
  grind
theorem d_lin {Z G a b : Int} : Z * (Z * G + -b * a) + -a * (Z * b + -b * Z) = Z * (Z * G - a * b) := by
  grind
/-- four vectors -/
theorem d4_nn : 0 ≤ d4 (vD n w w) (vD n w u) (vD n w x) (vD n w y) (vD n u u) (vD n x x) (vD n y y) (vD n x y) (vD n u x) (vD n u y) := by
  by_cases z : vD n w w = 0
  · rw [vD_0 (y := u) z, vD_0 (y := x) z, vD_0 (y := y) z, z]
    unfold d4
    simp
  · have p : 0 < vD n w w := by
      have := vD_nn (n := n) (x := w)
      omega
    have h : 0 ≤ d3 _ _ _ _ _ _ := gr_nn (n := n) (u := fun i => vD n w w * u i + (-vD n w u) * w i) (x := fun i => vD n w w * x i + (-vD n w x) * w i) (y := fun i => vD n w w * y i + (-vD n w y) * w i)
    rw [vD_lin2, vD_lin2, vD_lin2, vD_lin2, vD_lin2, vD_lin2, vD_comm (x := u) (y := w), vD_comm (x := x) (y := w), vD_comm (x := y) (y := w), d_lin, d_lin, d_lin, d_lin, d_lin, d_lin, d3_s, d34] at h
    have p3 := Int.mul_pos (Int.mul_pos p p) p
    have h2 := Int.nonneg_of_mul_nonneg_right h p3
    exact Int.nonneg_of_mul_nonneg_right h2 (Int.mul_pos p p)
/-! sums of products -/
def lc : List (Int × (Nat → Int)) → Nat → Int
  | [], _ => 0
  | c :: l, t => c.1 * c.2 t + lc l t
def lcs (n : Nat) : List (Int × (Nat → Int)) → Int
  | [] => 0
  | c :: l => c.1 * vS c.2 n + lcs n l
theorem lc_s : ∀ l, vS (lc l) n = lcs n l
  | [] => vS_zero n
  | c :: l => by
    show vS (fun t => c.1 * c.2 t + lc l t) n = c.1 * vS c.2 n + lcs n l
    rw [vS_add, vS_mul, lc_s l]
def hm (n : Nat) (B : Nat → Nat → Int) (k : Nat) (x y : Nat → Int) : Int := vD n x (vP n B k y)
theorem hm_c (sy : ∀ i j, i < n → j < n → B i j = B j i) {k : Nat} : hm n B k x y = hm n B k y x := by
  have h : vD n (vP n B k x) (vP n B 0 y) = vD n x (vP n B (k + 0) y) := vP_D sy k 0
  exact h.symm.trans vD_comm
theorem hm_e (sy : ∀ i j, i < n → j < n → B i j = B j i) {k t : Nat} (ht : t < n) : hm n B k x (vE t) = vP n B k x t := by
  have h : vD n (vP n B k x) (vP n B 0 (vE t)) = vD n x (vP n B (k + 0) (vE t)) := vP_D sy k 0
  exact h.symm.trans (vE_D ht)
theorem hm_s (sy : ∀ i j, i < n → j < n → B i j = B j i) {a b : Nat} : vS (fun t => hm n B a x (vE t) * hm n B b y (vE t)) n = hm n B (a + b) x y := by
  have h : vD n (vP n B a x) (vP n B b y) = vD n x (vP n B (a + b) y) := vP_D sy a b
  refine Eq.trans (vS_c n (fun t ht => ?_)) h
  rw [hm_e sy ht, hm_e sy ht]
set_option maxHeartbeats 4000000 in
theorem e3_s (sy : ∀ i j, i < n → j < n → B i j = B j i) : vS (fun t => d4 (hm n B 0 u u) (hm n B 1 u x) (hm n B 1 u y) (hm n B 1 u (vE t)) (hm n B 2 x x) (hm n B 2 y y) (hm n B 2 (vE t) (vE t)) (hm n B 2 y (vE t)) (hm n B 2 x y) (hm n B 2 x (vE t))) n = (hm n B 0 u u * (hm n B 2 x x * hm n B 2 y y - hm n B 2 x y * hm n B 2 x y) - hm n B 1 u x * hm n B 1 u x * hm n B 2 y y - hm n B 1 u y * hm n B 1 u y * hm n B 2 x x + 2 * (hm n B 1 u x * (hm n B 1 u y * hm n B 2 x y))) * vTr n B 2 + ((hm n B 1 u x * hm n B 1 u x - hm n B 0 u u * hm n B 2 x x) * hm n B 4 y y + ((hm n B 1 u y * hm n B 1 u y - hm n B 0 u u * hm n B 2 y y) * hm n B 4 x x + ((2 * (hm n B 0 u u * hm n B 2 x y) - 2 * (hm n B 1 u x * hm n B 1 u y)) * hm n B 4 x y + ((hm n B 2 x y * hm n B 2 x y - hm n B 2 x x * hm n B 2 y y) * hm n B 2 u u + ((2 * (hm n B 1 u y * hm n B 2 x x) - 2 * (hm n B 1 u x * hm n B 2 x y)) * hm n B 3 u y + ((2 * (hm n B 1 u x * hm n B 2 y y) - 2 * (hm n B 1 u y * hm n B 2 x y)) * hm n B 3 u x + 0)))))) := by
  have s2 : vS (fun t => hm n B 2 y (vE t) * hm n B 2 y (vE t)) n = hm n B 4 y y := hm_s sy
  have s3 : vS (fun t => hm n B 2 x (vE t) * hm n B 2 x (vE t)) n = hm n B 4 x x := hm_s sy
  have s4 : vS (fun t => hm n B 2 x (vE t) * hm n B 2 y (vE t)) n = hm n B 4 x y := hm_s sy
  have s5 : vS (fun t => hm n B 1 u (vE t) * hm n B 1 u (vE t)) n = hm n B 2 u u := hm_s sy
  have s6 : vS (fun t => hm n B 1 u (vE t) * hm n B 2 y (vE t)) n = hm n B 3 u y := hm_s sy
  have s7 : vS (fun t => hm n B 1 u (vE t) * hm n B 2 x (vE t)) n = hm n B 3 u x := hm_s sy
  rw [← s2, ← s3, ← s4, ← s5, ← s6, ← s7]
  generalize hm n B 0 u u = Z
  generalize hm n B 1 u x = q1
  generalize hm n B 1 u y = q2
  generalize hm n B 2 x x = U
  generalize hm n B 2 y y = X
  generalize hm n B 2 x y = p1
  refine Eq.trans (vS_c (g := lc [(Z * (U * X - p1 * p1) - q1 * q1 * X - q2 * q2 * U + 2 * (q1 * (q2 * p1)), fun t => hm n B 2 (vE t) (vE t)), (q1 * q1 - Z * U, fun t => hm n B 2 y (vE t) * hm n B 2 y (vE t)), (q2 * q2 - Z * X, fun t => hm n B 2 x (vE t) * hm n B 2 x (vE t)), (2 * (Z * p1) - 2 * (q1 * q2), fun t => hm n B 2 x (vE t) * hm n B 2 y (vE t)), (p1 * p1 - U * X, fun t => hm n B 1 u (vE t) * hm n B 1 u (vE t)), (2 * (q2 * U) - 2 * (q1 * p1), fun t => hm n B 1 u (vE t) * hm n B 2 y (vE t)), (2 * (q1 * X) - 2 * (q2 * p1), fun t => hm n B 1 u (vE t) * hm n B 2 x (vE t))]) n (fun t _ => ?_)) (lc_s _)
  show d4 _ _ _ _ _ _ _ _ _ _ = _ * hm n B 2 (vE t) (vE t) + (_ * (hm n B 2 y (vE t) * hm n B 2 y (vE t)) + (_ * (hm n B 2 x (vE t) * hm n B 2 x (vE t)) + (_ * (hm n B 2 x (vE t) * hm n B 2 y (vE t)) + (_ * (hm n B 1 u (vE t) * hm n B 1 u (vE t)) + (_ * (hm n B 1 u (vE t) * hm n B 2 y (vE t)) + (_ * (hm n B 1 u (vE t) * hm n B 2 x (vE t)) + 0))))))
  generalize hm n B 2 (vE t) (vE t) = Y
  generalize hm n B 2 y (vE t) = W
  generalize hm n B 2 x (vE t) = p2
  generalize hm n B 1 u (vE t) = q3
  unfold d4 d3
  grind
def e2f (Z q1 U P2 m2 r4 ν X pp qq qp x4 p4s q4s p3s q3s : Int) : Int := (P2 * (Z * U) - P2 * (q1 * q1) - Z * r4 - U * m2 + 2 * (q1 * ν)) * X + ((m2 - P2 * Z) * pp + ((r4 - P2 * U) * qq + ((2 * (P2 * q1) - 2 * ν) * qp + ((q1 * q1 - Z * U) * x4 + (2 * Z * p4s + (-(2 * q1) * q4s + (-(2 * q1) * p3s + (2 * U * q3s + 0))))))))
set_option maxHeartbeats 4000000 in
theorem e2_s (sy : ∀ i j, i < n → j < n → B i j = B j i) : vS (fun s => vS (fun t => d4 (hm n B 0 u u) (hm n B 1 u x) (hm n B 1 u (vE s)) (hm n B 1 u (vE t)) (hm n B 2 x x) (hm n B 2 (vE s) (vE s)) (hm n B 2 (vE t) (vE t)) (hm n B 2 (vE s) (vE t)) (hm n B 2 x (vE s)) (hm n B 2 x (vE t))) n) n = e2f (hm n B 0 u u) (hm n B 1 u x) (hm n B 2 x x) (vTr n B 2) (hm n B 2 u u) (hm n B 4 x x) (hm n B 3 u x) (vTr n B 2) (hm n B 4 x x) (hm n B 2 u u) (hm n B 3 u x) (vTr n B 4) (hm n B 6 x x) (hm n B 5 u x) (hm n B 5 u x) (hm n B 4 u u) := by
  rw [vS_c n (fun s _ => e3_s (y := vE s) sy)]
  have s2 : vS (fun t => hm n B 2 x (vE t) * hm n B 2 x (vE t)) n = hm n B 4 x x := hm_s sy
  have s3 : vS (fun t => hm n B 1 u (vE t) * hm n B 1 u (vE t)) n = hm n B 2 u u := hm_s sy
  have s4 : vS (fun t => hm n B 1 u (vE t) * hm n B 2 x (vE t)) n = hm n B 3 u x := hm_s sy
  have s6 : vS (fun t => hm n B 2 x (vE t) * hm n B 4 x (vE t)) n = hm n B 6 x x := hm_s sy
  have s7 : vS (fun t => hm n B 1 u (vE t) * hm n B 4 x (vE t)) n = hm n B 5 u x := hm_s sy
  have s8 : vS (fun t => hm n B 2 x (vE t) * hm n B 3 u (vE t)) n = hm n B 5 u x := (hm_s sy).trans (hm_c sy)
  have s9 : vS (fun t => hm n B 1 u (vE t) * hm n B 3 u (vE t)) n = hm n B 4 u u := hm_s sy
  have L := lc_s (n := n) [(vTr n B 2 * (hm n B 0 u u * hm n B 2 x x) - vTr n B 2 * (hm n B 1 u x * hm n B 1 u x) - hm n B 0 u u * hm n B 4 x x - hm n B 2 x x * hm n B 2 u u + 2 * (hm n B 1 u x * hm n B 3 u x), fun s => hm n B 2 (vE s) (vE s)), (hm n B 2 u u - vTr n B 2 * hm n B 0 u u, fun t => hm n B 2 x (vE t) * hm n B 2 x (vE t)), (hm n B 4 x x - vTr n B 2 * hm n B 2 x x, fun t => hm n B 1 u (vE t) * hm n B 1 u (vE t)), (2 * (vTr n B 2 * hm n B 1 u x) - 2 * hm n B 3 u x, fun t => hm n B 1 u (vE t) * hm n B 2 x (vE t)), (hm n B 1 u x * hm n B 1 u x - hm n B 0 u u * hm n B 2 x x, fun s => hm n B 4 (vE s) (vE s)), (2 * hm n B 0 u u, fun t => hm n B 2 x (vE t) * hm n B 4 x (vE t)), (-(2 * hm n B 1 u x), fun t => hm n B 1 u (vE t) * hm n B 4 x (vE t)), (-(2 * hm n B 1 u x), fun t => hm n B 2 x (vE t) * hm n B 3 u (vE t)), (2 * hm n B 2 x x, fun t => hm n B 1 u (vE t) * hm n B 3 u (vE t))]
  have R : lcs n [(vTr n B 2 * (hm n B 0 u u * hm n B 2 x x) - vTr n B 2 * (hm n B 1 u x * hm n B 1 u x) - hm n B 0 u u * hm n B 4 x x - hm n B 2 x x * hm n B 2 u u + 2 * (hm n B 1 u x * hm n B 3 u x), fun s => hm n B 2 (vE s) (vE s)), (hm n B 2 u u - vTr n B 2 * hm n B 0 u u, fun t => hm n B 2 x (vE t) * hm n B 2 x (vE t)), (hm n B 4 x x - vTr n B 2 * hm n B 2 x x, fun t => hm n B 1 u (vE t) * hm n B 1 u (vE t)), (2 * (vTr n B 2 * hm n B 1 u x) - 2 * hm n B 3 u x, fun t => hm n B 1 u (vE t) * hm n B 2 x (vE t)), (hm n B 1 u x * hm n B 1 u x - hm n B 0 u u * hm n B 2 x x, fun s => hm n B 4 (vE s) (vE s)), (2 * hm n B 0 u u, fun t => hm n B 2 x (vE t) * hm n B 4 x (vE t)), (-(2 * hm n B 1 u x), fun t => hm n B 1 u (vE t) * hm n B 4 x (vE t)), (-(2 * hm n B 1 u x), fun t => hm n B 2 x (vE t) * hm n B 3 u (vE t)), (2 * hm n B 2 x x, fun t => hm n B 1 u (vE t) * hm n B 3 u (vE t))] = e2f (hm n B 0 u u) (hm n B 1 u x) (hm n B 2 x x) (vTr n B 2) (hm n B 2 u u) (hm n B 4 x x) (hm n B 3 u x) (vS (fun s => hm n B 2 (vE s) (vE s)) n) (vS (fun t => hm n B 2 x (vE t) * hm n B 2 x (vE t)) n) (vS (fun t => hm n B 1 u (vE t) * hm n B 1 u (vE t)) n) (vS (fun t => hm n B 1 u (vE t) * hm n B 2 x (vE t)) n) (vS (fun s => hm n B 4 (vE s) (vE s)) n) (vS (fun t => hm n B 2 x (vE t) * hm n B 4 x (vE t)) n) (vS (fun t => hm n B 1 u (vE t) * hm n B 4 x (vE t)) n) (vS (fun t => hm n B 2 x (vE t) * hm n B 3 u (vE t)) n) (vS (fun t => hm n B 1 u (vE t) * hm n B 3 u (vE t)) n) := rfl
  rw [s2, s3, s4, s6, s7, s8, s9] at R
  refine Eq.trans (vS_c n (fun t _ => ?_)) (L.trans R)
  show _ = _ * hm n B 2 (vE t) (vE t) + (_ * (hm n B 2 x (vE t) * hm n B 2 x (vE t)) + (_ * (hm n B 1 u (vE t) * hm n B 1 u (vE t)) + (_ * (hm n B 1 u (vE t) * hm n B 2 x (vE t)) + (_ * hm n B 4 (vE t) (vE t) + (_ * (hm n B 2 x (vE t) * hm n B 4 x (vE t)) + (_ * (hm n B 1 u (vE t) * hm n B 4 x (vE t)) + (_ * (hm n B 2 x (vE t) * hm n B 3 u (vE t)) + (_ * (hm n B 1 u (vE t) * hm n B 3 u (vE t)) + 0))))))))
  generalize hm n B 0 u u = Z
  generalize hm n B 1 u x = q1
  generalize hm n B 2 x x = U
  generalize vTr n B 2 = P2
  generalize hm n B 2 u u = m2
  generalize hm n B 4 x x = r4
  generalize hm n B 3 u x = ν
  generalize hm n B 2 (vE t) (vE t) = X
  generalize hm n B 2 x (vE t) = p
  generalize hm n B 1 u (vE t) = q
  generalize hm n B 4 (vE t) (vE t) = x4
  generalize hm n B 4 x (vE t) = p4
  generalize hm n B 3 u (vE t) = q3
  grind
set_option maxHeartbeats 4000000 in
theorem gr4 (sy : ∀ i j, i < n → j < n → B i j = B j i) : 0 ≤ (vTr n B 2 * (vTr n B 2 * vTr n B 2) - 3 * (vTr n B 2 * vTr n B 4) + 2 * vTr n B 6) * vM n B u 0 - 3 * ((vTr n B 2 * vTr n B 2 - vTr n B 4) * vM n B u 2) + 6 * (vTr n B 2 * vM n B u 4) - 6 * vM n B u 6 := by
  have h := v3_nn (n := n) (F := fun r s t => d4 (vD n u u) (vD n u (vP n B 1 (vE r))) (vD n u (vP n B 1 (vE s))) (vD n u (vP n B 1 (vE t))) (vD n (vP n B 1 (vE r)) (vP n B 1 (vE r))) (vD n (vP n B 1 (vE s)) (vP n B 1 (vE s))) (vD n (vP n B 1 (vE t)) (vP n B 1 (vE t))) (vD n (vP n B 1 (vE s)) (vP n B 1 (vE t))) (vD n (vP n B 1 (vE r)) (vP n B 1 (vE s))) (vD n (vP n B 1 (vE r)) (vP n B 1 (vE t)))) (fun r s t => d4_nn)
  have W : ∀ a b : Nat, vD n (vP n B 1 (vE a)) (vP n B 1 (vE b)) = hm n B 2 (vE a) (vE b) := fun a b => vP_D sy 1 1
  have e : ∀ r, r < n → vS (fun s => vS (fun t => d4 (vD n u u) (vD n u (vP n B 1 (vE r))) (vD n u (vP n B 1 (vE s))) (vD n u (vP n B 1 (vE t))) (vD n (vP n B 1 (vE r)) (vP n B 1 (vE r))) (vD n (vP n B 1 (vE s)) (vP n B 1 (vE s))) (vD n (vP n B 1 (vE t)) (vP n B 1 (vE t))) (vD n (vP n B 1 (vE s)) (vP n B 1 (vE t))) (vD n (vP n B 1 (vE r)) (vP n B 1 (vE s))) (vD n (vP n B 1 (vE r)) (vP n B 1 (vE t)))) n) n = e2f (hm n B 0 u u) (hm n B 1 u (vE r)) (hm n B 2 (vE r) (vE r)) (vTr n B 2) (hm n B 2 u u) (hm n B 4 (vE r) (vE r)) (hm n B 3 u (vE r)) (vTr n B 2) (hm n B 4 (vE r) (vE r)) (hm n B 2 u u) (hm n B 3 u (vE r)) (vTr n B 4) (hm n B 6 (vE r) (vE r)) (hm n B 5 u (vE r)) (hm n B 5 u (vE r)) (hm n B 4 u u) := fun r _ => by
    rw [← e2_s (x := vE r) sy]
    refine vS_c n (fun s _ => vS_c n (fun t _ => ?_))
    rw [W, W, W, W, W, W]
    rfl
  have h1 : 0 ≤ vS (fun r => e2f (hm n B 0 u u) (hm n B 1 u (vE r)) (hm n B 2 (vE r) (vE r)) (vTr n B 2) (hm n B 2 u u) (hm n B 4 (vE r) (vE r)) (hm n B 3 u (vE r)) (vTr n B 2) (hm n B 4 (vE r) (vE r)) (hm n B 2 u u) (hm n B 3 u (vE r)) (vTr n B 4) (hm n B 6 (vE r) (vE r)) (hm n B 5 u (vE r)) (hm n B 5 u (vE r)) (hm n B 4 u u)) n := by
    rw [← vS_c n e]
    exact h
  have s2 : vS (fun t => hm n B 1 u (vE t) * hm n B 1 u (vE t)) n = hm n B 2 u u := hm_s sy
  have s4 : vS (fun t => hm n B 1 u (vE t) * hm n B 3 u (vE t)) n = hm n B 4 u u := hm_s sy
  have s5 : vS (fun t => hm n B 3 u (vE t) * hm n B 3 u (vE t)) n = hm n B 6 u u := hm_s sy
  have s7 : vS (fun t => hm n B 1 u (vE t) * hm n B 5 u (vE t)) n = hm n B 6 u u := hm_s sy
  have L := lc_s (n := n) [(vTr n B 2 * (vTr n B 2 * hm n B 0 u u) - 2 * (vTr n B 2 * hm n B 2 u u) - hm n B 0 u u * vTr n B 4 + 2 * hm n B 4 u u, fun r => hm n B 2 (vE r) (vE r)), (vTr n B 4 - vTr n B 2 * vTr n B 2, fun t => hm n B 1 u (vE t) * hm n B 1 u (vE t)), (2 * hm n B 2 u u - 2 * (vTr n B 2 * hm n B 0 u u), fun r => hm n B 4 (vE r) (vE r)), (4 * vTr n B 2, fun t => hm n B 1 u (vE t) * hm n B 3 u (vE t)), (-2, fun t => hm n B 3 u (vE t) * hm n B 3 u (vE t)), (2 * hm n B 0 u u, fun r => hm n B 6 (vE r) (vE r)), (-4, fun t => hm n B 1 u (vE t) * hm n B 5 u (vE t))]
  have R : lcs n [(vTr n B 2 * (vTr n B 2 * hm n B 0 u u) - 2 * (vTr n B 2 * hm n B 2 u u) - hm n B 0 u u * vTr n B 4 + 2 * hm n B 4 u u, fun r => hm n B 2 (vE r) (vE r)), (vTr n B 4 - vTr n B 2 * vTr n B 2, fun t => hm n B 1 u (vE t) * hm n B 1 u (vE t)), (2 * hm n B 2 u u - 2 * (vTr n B 2 * hm n B 0 u u), fun r => hm n B 4 (vE r) (vE r)), (4 * vTr n B 2, fun t => hm n B 1 u (vE t) * hm n B 3 u (vE t)), (-2, fun t => hm n B 3 u (vE t) * hm n B 3 u (vE t)), (2 * hm n B 0 u u, fun r => hm n B 6 (vE r) (vE r)), (-4, fun t => hm n B 1 u (vE t) * hm n B 5 u (vE t))] = (vTr n B 2 * (vTr n B 2 * hm n B 0 u u) - 2 * (vTr n B 2 * hm n B 2 u u) - hm n B 0 u u * vTr n B 4 + 2 * hm n B 4 u u) * vTr n B 2 + ((vTr n B 4 - vTr n B 2 * vTr n B 2) * vS (fun t => hm n B 1 u (vE t) * hm n B 1 u (vE t)) n + ((2 * hm n B 2 u u - 2 * (vTr n B 2 * hm n B 0 u u)) * vTr n B 4 + (4 * vTr n B 2 * vS (fun t => hm n B 1 u (vE t) * hm n B 3 u (vE t)) n + (-2 * vS (fun t => hm n B 3 u (vE t) * hm n B 3 u (vE t)) n + (2 * hm n B 0 u u * vTr n B 6 + (-4 * vS (fun t => hm n B 1 u (vE t) * hm n B 5 u (vE t)) n + 0)))))) := rfl
  rw [s2, s4, s5, s7] at R
  have h2 : vS (fun r => e2f (hm n B 0 u u) (hm n B 1 u (vE r)) (hm n B 2 (vE r) (vE r)) (vTr n B 2) (hm n B 2 u u) (hm n B 4 (vE r) (vE r)) (hm n B 3 u (vE r)) (vTr n B 2) (hm n B 4 (vE r) (vE r)) (hm n B 2 u u) (hm n B 3 u (vE r)) (vTr n B 4) (hm n B 6 (vE r) (vE r)) (hm n B 5 u (vE r)) (hm n B 5 u (vE r)) (hm n B 4 u u)) n = (vTr n B 2 * (vTr n B 2 * hm n B 0 u u) - 2 * (vTr n B 2 * hm n B 2 u u) - hm n B 0 u u * vTr n B 4 + 2 * hm n B 4 u u) * vTr n B 2 + ((vTr n B 4 - vTr n B 2 * vTr n B 2) * hm n B 2 u u + ((2 * hm n B 2 u u - 2 * (vTr n B 2 * hm n B 0 u u)) * vTr n B 4 + (4 * vTr n B 2 * hm n B 4 u u + (-2 * hm n B 6 u u + (2 * hm n B 0 u u * vTr n B 6 + (-4 * hm n B 6 u u + 0)))))) := by
    refine Eq.trans (vS_c n (fun t _ => ?_)) (L.trans R)
    show _ = _ * hm n B 2 (vE t) (vE t) + (_ * (hm n B 1 u (vE t) * hm n B 1 u (vE t)) + (_ * hm n B 4 (vE t) (vE t) + (_ * (hm n B 1 u (vE t) * hm n B 3 u (vE t)) + (_ * (hm n B 3 u (vE t) * hm n B 3 u (vE t)) + (_ * hm n B 6 (vE t) (vE t) + (_ * (hm n B 1 u (vE t) * hm n B 5 u (vE t)) + 0))))))
    generalize hm n B 0 u u = Z
    generalize hm n B 1 u (vE t) = q
    generalize hm n B 2 (vE t) (vE t) = U
    generalize vTr n B 2 = P2
    generalize vTr n B 4 = P4
    generalize hm n B 2 u u = m2
    generalize hm n B 4 u u = m4
    generalize hm n B 4 (vE t) (vE t) = r4
    generalize hm n B 3 u (vE t) = ν
    generalize hm n B 5 u (vE t) = κ
    generalize hm n B 6 (vE t) (vE t) = r6
    unfold e2f
    grind
  rw [h2] at h1
  show 0 ≤ (vTr n B 2 * (vTr n B 2 * vTr n B 2) - 3 * (vTr n B 2 * vTr n B 4) + 2 * vTr n B 6) * hm n B 0 u u - 3 * ((vTr n B 2 * vTr n B 2 - vTr n B 4) * hm n B 2 u u) + 6 * (vTr n B 2 * hm n B 4 u u) - 6 * hm n B 6 u u
  generalize hm n B 0 u u = Z at *
  generalize hm n B 2 u u = m2 at *
  generalize hm n B 4 u u = m4 at *
  generalize hm n B 6 u u = m6 at *
  generalize vTr n B 2 = P2 at *
  generalize vTr n B 4 = P4 at *
  generalize vTr n B 6 = P6 at *
  have e : (P2 * (P2 * P2) - 3 * (P2 * P4) + 2 * P6) * Z - 3 * ((P2 * P2 - P4) * m2) + 6 * (P2 * m4) - 6 * m6 = (P2 * (P2 * Z) - 2 * (P2 * m2) - Z * P4 + 2 * m4) * P2 + ((P4 - P2 * P2) * m2 + ((2 * m2 - 2 * (P2 * Z)) * P4 + (4 * P2 * m4 + (-2 * m6 + (2 * Z * P6 + (-4 * m6 + 0)))))) := by grind
  rw [e]
  exact h1
/-! six rows: what is never negative -/
def nw6 (b P : Nat → Int) : Prop := P 0 = 6 ∧ P 1 = b 1 ∧ P 2 = b 1 * P 1 - 2 * b 2 ∧ P 3 = b 1 * P 2 - b 2 * P 1 + 3 * b 3 ∧ P 4 = b 1 * P 3 - b 2 * P 2 + b 3 * P 1 - 4 * b 4 ∧ P 5 = b 1 * P 4 - b 2 * P 3 + b 3 * P 2 - b 4 * P 1 + 5 * b 5 ∧ P 6 = b 1 * P 5 - b 2 * P 4 + b 3 * P 3 - b 4 * P 2 + b 5 * P 1 - 6 * b 6 ∧ P 7 = b 1 * P 6 - b 2 * P 5 + b 3 * P 4 - b 4 * P 3 + b 5 * P 2 - b 6 * P 1 ∧ P 8 = b 1 * P 7 - b 2 * P 6 + b 3 * P 5 - b 4 * P 4 + b 5 * P 3 - b 6 * P 2
def ch6 (b M : Nat → Int) : Prop := ∀ k, M (k + 6) = b 1 * M (k + 5) - b 2 * M (k + 4) + b 3 * M (k + 3) - b 4 * M (k + 2) + b 5 * M (k + 1) - b 6 * M k
section
variable {b P M : Nat → Int}
set_option maxHeartbeats 4000000 in
theorem iq2 (hN : nw6 b P) : 2 * qf b M 2 = qL M (tl b 1) (tl b 1) 0 + yL M P [[], [1]] 0 [[], [1]] 0 := by
  obtain ⟨n0, n1, n2, -⟩ := hN
  simp only [qf, tl, tg, List.map, q1, qL, yL, yS, Nat.reduceAdd, n1, n2]
  grind
set_option maxHeartbeats 4000000 in
theorem iq3 (hN : nw6 b P) : 6 * qf b M 3 = 2 * qL M (tl b 2) (tl b 2) 0 + yL M P [[], [b 1, -1], [-1]] 0 [[], [b 1, -1], [-1]] 0 + ((P 2 * P 2 - P 4) * M 0 - 2 * (P 2 * M 2) + 2 * M 4) := by
  obtain ⟨n0, n1, n2, n3, n4, -⟩ := hN
  simp only [qf, tl, tg, List.map, q1, qL, yL, yS, Nat.reduceAdd, n4, n3, n2, n1]
  grind
set_option maxHeartbeats 8000000 in
theorem iq4 (hN : nw6 b P) (hC : ch6 b M) : 18 * qf b M 4 = 6 * qL M (tl b 3) (tl b 3) 0 + 3 * yL M P [tl b 3, tg (tl b 2), tl b 1, [-1]] 0 [tl b 3, tg (tl b 2), tl b 1, [-1]] 0 + ((P 2 * (P 2 * P 2) - 3 * (P 2 * P 4) + 2 * P 6) * M 0 - 3 * ((P 2 * P 2 - P 4) * M 2) + 6 * (P 2 * M 4) - 6 * M 6) := by
  obtain ⟨n0, n1, n2, n3, n4, n5, n6, -⟩ := hN
  have c6 := hC 0
  simp only [Nat.reduceAdd, Nat.zero_add] at c6
  simp only [qf, tl, tg, List.map, q1, qL, yL, yS, Nat.reduceAdd, n6, n5, n4, n3, n2, n1, n0, c6]
  grind
set_option maxHeartbeats 16000000 in
theorem iq5 (hN : nw6 b P) (hC : ch6 b M) : 2 * qf b M 5 = qL M (tl b 4) (tl b 4) 0 + yL M P [tl b 4, tg (tl b 3), tl b 2, tg (tl b 1), [1]] 0 [tl b 4, tg (tl b 3), tl b 2, tg (tl b 1), [1]] 0 := by
  obtain ⟨n0, n1, n2, n3, n4, n5, n6, n7, n8⟩ := hN
  have c6 := hC 0
  have c7 := hC 1
  have c8 := hC 2
  simp only [Nat.reduceAdd, Nat.zero_add] at c6 c7 c8
  simp only [qf, tl, tg, List.map, q1, qL, yL, yS, Nat.reduceAdd, n8, n7, n6, n5, n4, n3, n2, n1, n0, c8, c7, c6]
  grind
set_option maxHeartbeats 8000000 in
theorem iq6 (hC : ch6 b M) : qf b M 6 = qL M (tl b 5) (tl b 5) 0 := by
  have c6 := hC 0
  have c7 := hC 1
  have c8 := hC 2
  have c9 := hC 3
  have c10 := hC 4
  simp only [Nat.reduceAdd, Nat.zero_add] at c6 c7 c8 c9 c10
  simp only [qf, tl, tg, List.map, q1, qL, Nat.reduceAdd, c10, c9, c8, c7, c6]
  grind
theorem vL_sq0 (sy : ∀ i j, i < n → j < n → B i j = B j i) {cs : List Int} (h : qL (vM n B u) cs cs 0 = 0) : q1 (vM n B u) cs 0 = 0 := by
  rw [← vL_D (u := u) sy cs 0 (ds := cs) (b := 0)] at h
  have k : vD n (vP n B 0 u) (vL n B u cs 0) = q1 (vM n B u) cs (0 + 0) := vL_1 sy cs 0
  rw [← show q1 (vM n B u) cs (0 + 0) = q1 (vM n B u) cs 0 from rfl, ← k, vD_comm]
  exact vD_0 h
/-- never negative; and nothing only where the last form is -/
theorem qf6 (sy : ∀ i j, i < 6 → j < 6 → B i j = B j i) (hN : nw6 b (vTr 6 B)) (hC : ch6 b (vM 6 B u)) : ∀ m, m ≤ 5 → 0 ≤ qf b (vM 6 B u) (m + 1) ∧ (qf b (vM 6 B u) (m + 1) = 0 → q1 (vM 6 B u) (tl b m) 0 = 0) := fun m hm => by
  have key : ∀ {c c2 x s : Int}, 0 < c → 0 < c2 → c * x = c2 * qL (vM 6 B u) (tl b m) (tl b m) 0 + s → 0 ≤ s → 0 ≤ x ∧ (x = 0 → q1 (vM 6 B u) (tl b m) 0 = 0) := fun {c c2 x s} c0 c20 e s0 => by
    have q := vL_sq (u := u) sy (tl b m)
    have q' := Int.mul_nonneg (Int.le_of_lt c20) q
    refine ⟨?_, fun z => ?_⟩
    · refine Int.nonneg_of_mul_nonneg_right (a := c) ?_ c0
      omega
    · rw [z, Int.mul_zero] at e
      have z2 : c2 * qL (vM 6 B u) (tl b m) (tl b m) 0 = 0 := by omega
      refine vL_sq0 sy ?_
      rcases Int.mul_eq_zero.mp z2 with w | w
      · omega
      · exact w
  rcases (show m = 0 ∨ m = 1 ∨ m = 2 ∨ m = 3 ∨ m = 4 ∨ m = 5 by omega) with e | e | e | e | e | e
  · subst e
    refine key (c := 1) (c2 := 1) (s := 0) (by decide) (by decide) ?_ (Int.le_refl 0)
    simp only [qf, tl, q1, qL]
    omega
  · subst e
    refine key (c := 2) (c2 := 1) (by decide) (by decide) ?_ (y_nn (u := u) sy [[], [1]])
    rw [Int.one_mul]
    exact iq2 hN
  · subst e
    refine key (c := 6) (c2 := 2) (s := yL (vM 6 B u) (vTr 6 B) [[], [b 1, -1], [-1]] 0 [[], [b 1, -1], [-1]] 0 + ((vTr 6 B 2 * vTr 6 B 2 - vTr 6 B 4) * vM 6 B u 0 - 2 * (vTr 6 B 2 * vM 6 B u 2) + 2 * vM 6 B u 4)) (by decide) (by decide) ?_ ?_
    · rw [← Int.add_assoc]
      exact iq3 hN
    · have h2 := y_nn (u := u) sy [[], [b 1, -1], [-1]]
      have h3 := gr3 (u := u) sy
      omega
  · subst e
    refine key (c := 18) (c2 := 6) (s := 3 * yL (vM 6 B u) (vTr 6 B) [tl b 3, tg (tl b 2), tl b 1, [-1]] 0 [tl b 3, tg (tl b 2), tl b 1, [-1]] 0 + ((vTr 6 B 2 * (vTr 6 B 2 * vTr 6 B 2) - 3 * (vTr 6 B 2 * vTr 6 B 4) + 2 * vTr 6 B 6) * vM 6 B u 0 - 3 * ((vTr 6 B 2 * vTr 6 B 2 - vTr 6 B 4) * vM 6 B u 2) + 6 * (vTr 6 B 2 * vM 6 B u 4) - 6 * vM 6 B u 6)) (by decide) (by decide) ?_ ?_
    · rw [← Int.add_assoc]
      exact iq4 hN hC
    · have h2 := y_nn (u := u) sy [tl b 3, tg (tl b 2), tl b 1, [-1]]
      have h3 := gr4 (u := u) sy
      omega
  · subst e
    refine key (c := 2) (c2 := 1) (by decide) (by decide) ?_ (y_nn (u := u) sy [tl b 4, tg (tl b 3), tl b 2, tg (tl b 1), [1]])
    rw [Int.one_mul]
    exact iq5 hN hC
  · subst e
    refine key (c := 1) (c2 := 1) (s := 0) (by decide) (by decide) ?_ (Int.le_refl 0)
    rw [Int.one_mul, Int.one_mul, Int.add_zero]
    exact iq6 hC
end
/-! a table less d v v: its traces -/
def fw (d : Int) (M : Nat → Int) : Nat → Nat → Int
  | 0, m => M m
  | j + 1, m => fw d M j (m + 1) - d * (M m * fw d M j 0)
def ft (d : Int) (M P : Nat → Int) : Nat → Nat → Int
  | 0, m => P m
  | j + 1, m => ft d M P j (m + 1) - d * fw d M j m
def lv (B : Nat → Nat → Int) (v : Nat → Int) (d : Int) (i j : Nat) : Int := B i j - d * (v i * v j)
theorem lv_B {i : Nat} : vB n (lv B v d) x i = vB n B x i - d * (v i * vD n v x) := by
  have e : ∀ j, j < n → lv B v d i j * x j = B i j * x j - d * (v i * (v j * x j)) := fun j _ => by
    unfold lv
    rw [Int.sub_mul, Int.mul_assoc, Int.mul_assoc]
  show vS (fun j => lv B v d i j * x j) n = vS (fun j => B i j * x j) n - d * (v i * vS (fun j => v j * x j) n)
  rw [vS_c n e, vS_sub, vS_mul, vS_mul]
theorem lv_sy (sy : ∀ i j, i < n → j < n → B i j = B j i) : ∀ i j, i < n → j < n → lv B v d i j = lv B v d j i := fun i j hi hj => by
  unfold lv
  rw [sy i j hi hj, Int.mul_comm (v i)]
theorem vP_s : ∀ (k : Nat) (x : Nat → Int), vP n B (k + 1) x = vP n B k (vB n B x)
  | 0, _ => rfl
  | k + 1, x => by
    show vB n B (vP n B (k + 1) x) = vB n B (vP n B k (vB n B x))
    rw [vP_s k x]
theorem vP_l {c : Int} : ∀ (k i : Nat), vP n B k (fun i => x i - c * y i) i = vP n B k x i - c * vP n B k y i
  | 0, _ => rfl
  | k + 1, i => by
    show vB n B (vP n B k (fun i => x i - c * y i)) i = vB n B (vP n B k x) i - c * vB n B (vP n B k y) i
    have e : vP n B k (fun i => x i - c * y i) = fun i => vP n B k x i - c * vP n B k y i := funext (fun i => vP_l k i)
    rw [e]
    unfold vB
    rw [← vS_mul, ← vS_sub]
    exact vS_c n (fun j _ => by rw [Int.mul_sub, Int.mul_left_comm])
theorem fw_e (sy : ∀ i j, i < n → j < n → B i j = B j i) : ∀ j m : Nat, vD n v (vP n (lv B v d) j (vP n B m v)) = fw d (vM n B v) j m
  | 0, _ => rfl
  | j + 1, m => by
    have e : vB n (lv B v d) (vP n B m v) = fun i => vP n B (m + 1) v i - (d * vM n B v m) * v i := funext (fun i => by
      rw [lv_B]
      show vP n B (m + 1) v i - d * (v i * vM n B v m) = _
      rw [Int.mul_comm (v i), Int.mul_assoc])
    rw [vP_s, e, show vP n (lv B v d) j (fun i => vP n B (m + 1) v i - (d * vM n B v m) * v i) = fun i => vP n (lv B v d) j (vP n B (m + 1) v) i - (d * vM n B v m) * vP n (lv B v d) j v i from funext (fun i => vP_l j i)]
    show vS (fun i => v i * (vP n (lv B v d) j (vP n B (m + 1) v) i - (d * vM n B v m) * vP n (lv B v d) j v i)) n = fw d (vM n B v) j (m + 1) - d * (vM n B v m * fw d (vM n B v) j 0)
    rw [← fw_e sy j (m + 1), ← fw_e sy j 0, ← Int.mul_assoc]
    show _ = vS (fun i => v i * vP n (lv B v d) j (vP n B (m + 1) v) i) n - d * vM n B v m * vS (fun i => v i * vP n (lv B v d) j (vP n B 0 v) i) n
    rw [← vS_mul, ← vS_sub]
    exact vS_c n (fun i _ => by
      rw [Int.mul_sub, Int.mul_left_comm]
      rfl)
theorem ft_e (sy : ∀ i j, i < n → j < n → B i j = B j i) : ∀ j m : Nat, vS (fun r => vD n (vE r) (vP n (lv B v d) j (vP n B m (vE r)))) n = ft d (vM n B v) (vTr n B) j m
  | 0, _ => rfl
  | j + 1, m => by
    have sy' := lv_sy (v := v) (d := d) sy
    have e : ∀ r, r < n → vD n (vE r) (vP n (lv B v d) (j + 1) (vP n B m (vE r))) = vD n (vE r) (vP n (lv B v d) j (vP n B (m + 1) (vE r))) - d * (vP n B m v r * vP n (lv B v d) j v r) := fun r hr => by
      have k : vD n v (vP n B m (vE r)) = vP n B m v r := hm_e sy hr
      have e : vB n (lv B v d) (vP n B m (vE r)) = fun i => vP n B (m + 1) (vE r) i - (d * vP n B m v r) * v i := funext (fun i => by
        rw [lv_B, k]
        show vP n B (m + 1) (vE r) i - _ = _
        rw [Int.mul_comm (v i), Int.mul_assoc])
      rw [vP_s, e, show vP n (lv B v d) j (fun i => vP n B (m + 1) (vE r) i - (d * vP n B m v r) * v i) = fun i => vP n (lv B v d) j (vP n B (m + 1) (vE r)) i - (d * vP n B m v r) * vP n (lv B v d) j v i from funext (fun i => vP_l j i), vD_comm, vE_D hr, vD_comm, vE_D hr, Int.mul_assoc]
    rw [vS_c n e, vS_sub, vS_mul, ft_e sy j (m + 1)]
    show _ = ft d (vM n B v) (vTr n B) j (m + 1) - d * fw d (vM n B v) j m
    rw [← fw_e sy j m]
    congr 2
    have h : vD n (vP n (lv B v d) j v) (vP n (lv B v d) 0 (vP n B m v)) = vD n v (vP n (lv B v d) (j + 0) (vP n B m v)) := vP_D sy' j 0
    exact vD_comm.trans h
theorem ft_0 (sy : ∀ i j, i < n → j < n → B i j = B j i) {k : Nat} : vTr n (lv B v d) k = ft d (vM n B v) (vTr n B) k 0 := ft_e sy k 0
set_option maxHeartbeats 16000000 in
theorem ak_e {a a' M P P' : Nat → Int} (hN : nw6 a P) (hN' : nw6 a' P') (hP : ∀ k, P' k = ft d M P k 0) : a' 1 = a 1 - d * q1 M (tl a 0) 0 ∧ a' 2 = a 2 - d * q1 M (tl a 1) 0 ∧ a' 3 = a 3 - d * q1 M (tl a 2) 0 ∧ a' 4 = a 4 - d * q1 M (tl a 3) 0 ∧ a' 5 = a 5 - d * q1 M (tl a 4) 0 ∧ a' 6 = a 6 - d * q1 M (tl a 5) 0 := by
  obtain ⟨n0, n1, n2, n3, n4, n5, n6, -, -⟩ := hN
  obtain ⟨-, m1, m2, m3, m4, m5, m6, -, -⟩ := hN'
  have p1 := hP 1
  have p2 := hP 2
  have p3 := hP 3
  have p4 := hP 4
  have p5 := hP 5
  have p6 := hP 6
  simp only [ft, fw, Nat.reduceAdd, n6, n5, n4, n3, n2, n1] at p1 p2 p3 p4 p5 p6
  simp only [tl, tg, List.map, q1, Nat.reduceAdd]
  generalize P' 1 = P1 at *
  generalize P' 2 = P2 at *
  generalize P' 3 = P3 at *
  generalize P' 4 = P4 at *
  generalize P' 5 = P5 at *
  generalize P' 6 = P6 at *
  have h1 : a' 1 = a 1 - d * (1 * M 0 + 0) := by grind
  have h2 : 2 * a' 2 = 2 * (a 2 - d * (a 1 * M 0 + (-1 * M 1 + 0))) := by
    have : 2 * a' 2 = a' 1 * P1 - P2 := by omega
    rw [this, h1, p1, p2]
    grind
  have h2' : a' 2 = a 2 - d * (a 1 * M 0 + (-1 * M 1 + 0)) := by omega
  have h3 : 3 * a' 3 = 3 * (a 3 - d * (a 2 * M 0 + (-a 1 * M 1 + (- -1 * M 2 + 0)))) := by
    have : 3 * a' 3 = P3 - a' 1 * P2 + a' 2 * P1 := by omega
    rw [this, h2', h1, p1, p2, p3]
    grind
  have h3' : a' 3 = a 3 - d * (a 2 * M 0 + (-a 1 * M 1 + (- -1 * M 2 + 0))) := by omega
  have h4 : 4 * a' 4 = 4 * (a 4 - d * (a 3 * M 0 + (-a 2 * M 1 + (- -a 1 * M 2 + (- - -1 * M 3 + 0))))) := by
    have : 4 * a' 4 = a' 1 * P3 - a' 2 * P2 + a' 3 * P1 - P4 := by omega
    rw [this, h3', h2', h1, p1, p2, p3, p4]
    grind
  have h4' : a' 4 = a 4 - d * (a 3 * M 0 + (-a 2 * M 1 + (- -a 1 * M 2 + (- - -1 * M 3 + 0)))) := by omega
  have h5 : 5 * a' 5 = 5 * (a 5 - d * (a 4 * M 0 + (-a 3 * M 1 + (- -a 2 * M 2 + (- - -a 1 * M 3 + (- - - -1 * M 4 + 0)))))) := by
    have : 5 * a' 5 = P5 - a' 1 * P4 + a' 2 * P3 - a' 3 * P2 + a' 4 * P1 := by omega
    rw [this, h4', h3', h2', h1, p1, p2, p3, p4, p5]
    grind
  have h5' : a' 5 = a 5 - d * (a 4 * M 0 + (-a 3 * M 1 + (- -a 2 * M 2 + (- - -a 1 * M 3 + (- - - -1 * M 4 + 0))))) := by omega
  have h6 : 6 * a' 6 = 6 * (a 6 - d * (a 5 * M 0 + (-a 4 * M 1 + (- -a 3 * M 2 + (- - -a 2 * M 3 + (- - - -a 1 * M 4 + (- - - - -1 * M 5 + 0))))))) := by
    have : 6 * a' 6 = a' 1 * P5 - a' 2 * P4 + a' 3 * P3 - a' 4 * P2 + a' 5 * P1 - P6 := by omega
    rw [this, h5', h4', h3', h2', h1, p1, p2, p3, p4, p5, p6]
    grind
  have h6' : a' 6 = a 6 - d * (a 5 * M 0 + (-a 4 * M 1 + (- -a 3 * M 2 + (- - -a 2 * M 3 + (- - - -a 1 * M 4 + (- - - - -1 * M 5 + 0)))))) := by omega
  exact ⟨h1.trans (by grind), h2'.trans (by grind), h3'.trans (by grind), h4'.trans (by grind), h5'.trans (by grind), h6'.trans (by grind)⟩
end MX6
