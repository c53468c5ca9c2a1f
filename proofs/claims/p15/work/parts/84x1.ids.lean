/-! ===== 84x1: what is never negative, by moments ===== -/
section MX1
variable {M P b f g u x y x' y' : Nat → Int} {n : Nat} {B F G : Nat → Nat → Int} {a c a' c' : Int}
theorem vD_nn : 0 ≤ vD n x x := vS_nn n (fun i _ => sq_nn _)
theorem vD_0 (h : vD n x x = 0) : vD n x y = 0 := by
  have e : ∀ i, i < n → x i * y i = 0 := fun i hi => by
    have := sq_e0 (vS_e0 n (fun i _ => sq_nn (x i)) h i hi)
    rw [this, Int.zero_mul]
  exact (vS_c n e).trans (vS_zero n)
theorem vD_lin : vD n (fun i => a * x i + c * y i) x' = a * vD n x x' + c * vD n y x' := by
  unfold vD
  have e : ∀ i, i < n → (a * x i + c * y i) * x' i = a * (x i * x' i) + c * (y i * x' i) := fun i _ => by
    rw [Int.add_mul, Int.mul_assoc, Int.mul_assoc]
  rw [vS_c n e, vS_add, vS_mul, vS_mul]
theorem vD_lin2 : vD n (fun i => a * x i + c * y i) (fun i => a' * x' i + c' * y' i) = a * (a' * vD n x x' + c' * vD n x y') + c * (a' * vD n y x' + c' * vD n y y') := by
  rw [vD_lin, vD_comm (x := x), vD_comm (x := y), vD_lin, vD_lin, vD_comm (x := x'), vD_comm (x := y'), vD_comm (x := x') (y := y), vD_comm (x := y') (y := y)]
theorem cs_nn : 0 ≤ vD n x x * vD n y y - vD n x y * vD n x y := by
  by_cases z : vD n x x = 0
  · rw [z, vD_0 z, Int.zero_mul]
    decide
  · have p : 0 < vD n x x := by
      have := vD_nn (n := n) (x := x)
      omega
    have h := vD_nn (n := n) (x := fun i => vD n x x * y i + (-vD n x y) * x i)
    rw [vD_lin2, vD_comm (x := y) (y := x)] at h
    have e : vD n x x * (vD n x x * vD n y y + -vD n x y * vD n x y) + -vD n x y * (vD n x x * vD n x y + -vD n x y * vD n x x) = vD n x x * (vD n x x * vD n y y - vD n x y * vD n x y) := by
      generalize vD n x x = X
      generalize vD n y y = Y
      generalize vD n x y = W
      grind
    rw [e] at h
    exact Int.nonneg_of_mul_nonneg_right h p
/-- three vectors -/
theorem gr_nn : 0 ≤ vD n u u * (vD n x x * vD n y y) - vD n u u * (vD n x y * vD n x y) - vD n u x * vD n u x * vD n y y + 2 * (vD n u y * (vD n u x * vD n x y)) - vD n x x * (vD n u y * vD n u y) := by
  by_cases z : vD n u u = 0
  · rw [vD_0 (y := x) z, vD_0 (y := y) z, z]
    simp
  · have p : 0 < vD n u u := by
      have := vD_nn (n := n) (x := u)
      omega
    have h := cs_nn (n := n) (x := fun i => vD n u u * x i + (-vD n u x) * u i) (y := fun i => vD n u u * y i + (-vD n u y) * u i)
    rw [vD_lin2, vD_lin2, vD_lin2, vD_comm (x := x) (y := u), vD_comm (x := y) (y := u)] at h
    generalize vD n u u = U at *
    generalize vD n x x = X at *
    generalize vD n y y = Y at *
    generalize vD n x y = W at *
    generalize vD n u x = p1 at *
    generalize vD n u y = p2 at *
    have e : (U * (U * X + -p1 * p1) + -p1 * (U * p1 + -p1 * U)) * (U * (U * Y + -p2 * p2) + -p2 * (U * p2 + -p2 * U)) - (U * (U * W + -p2 * p1) + -p1 * (U * p2 + -p2 * U)) * (U * (U * W + -p2 * p1) + -p1 * (U * p2 + -p2 * U)) = (U * U * U) * (U * (X * Y) - U * (W * W) - p1 * p1 * Y + 2 * (p2 * (p1 * W)) - X * (p2 * p2)) := by
      grind
    rw [e] at h
    exact Int.nonneg_of_mul_nonneg_right h (Int.mul_pos (Int.mul_pos p p) p)
/-! double sums -/
def v2 (n : Nat) (F : Nat → Nat → Int) : Int := vS (fun r => vS (fun s => F r s) n) n
theorem v2_c (h : ∀ r s, r < n → s < n → F r s = G r s) : v2 n F = v2 n G := vS_c n (fun r hr => vS_c n (fun s hs => h r s hr hs))
theorem v2_add : v2 n (fun r s => F r s + G r s) = v2 n F + v2 n G := by
  unfold v2
  rw [← vS_add]
  refine vS_c n (fun r _ => ?_)
  rw [← vS_add]
theorem v2_sub : v2 n (fun r s => F r s - G r s) = v2 n F - v2 n G := by
  unfold v2
  rw [← vS_sub]
  refine vS_c n (fun r _ => ?_)
  rw [← vS_sub]
theorem v2_mul : v2 n (fun r s => c * F r s) = c * v2 n F := by
  unfold v2
  rw [← vS_mul]
  refine vS_c n (fun r _ => ?_)
  rw [← vS_mul]
theorem v2_prod : v2 n (fun r s => f r * g s) = vS f n * vS g n := by
  unfold v2
  rw [← vS_mulr]
  refine vS_c n (fun r _ => ?_)
  rw [← vS_mul]
theorem v2_nn (h : ∀ r s, 0 ≤ F r s) : 0 ≤ v2 n F := vS_nn n (fun r _ => vS_nn n (fun s _ => h r s))
theorem v2_swap : v2 n (fun r s => F s r) = v2 n F := vS_swap n
theorem gr3 (sy : ∀ i j, i < n → j < n → B i j = B j i) : 0 ≤ (vTr n B 2 * vTr n B 2 - vTr n B 4) * vM n B u 0 - 2 * (vTr n B 2 * vM n B u 2) + 2 * vM n B u 4 := by
  have h := v2_nn (n := n) (F := fun r s => vD n u u * (vD n (vP n B 1 (vE r)) (vP n B 1 (vE r)) * vD n (vP n B 1 (vE s)) (vP n B 1 (vE s))) - vD n u u * (vD n (vP n B 1 (vE r)) (vP n B 1 (vE s)) * vD n (vP n B 1 (vE r)) (vP n B 1 (vE s))) - vD n u (vP n B 1 (vE r)) * vD n u (vP n B 1 (vE r)) * vD n (vP n B 1 (vE s)) (vP n B 1 (vE s)) + 2 * (vD n u (vP n B 1 (vE s)) * (vD n u (vP n B 1 (vE r)) * vD n (vP n B 1 (vE r)) (vP n B 1 (vE s)))) - vD n (vP n B 1 (vE r)) (vP n B 1 (vE r)) * (vD n u (vP n B 1 (vE s)) * vD n u (vP n B 1 (vE s)))) (fun r s => gr_nn)
  have X : ∀ r, vD n (vP n B 1 (vE r)) (vP n B 1 (vE r)) = vM n B (vE r) 2 := fun r => vP_D sy 1 1
  have K : ∀ k r, r < n → vD n (vE r) (vP n B k u) = vP n B k u r := fun k r hr => vD_comm.trans (vE_D hr)
  have A : ∀ r, r < n → vD n u (vP n B 1 (vE r)) = vP n B 1 u r := fun r hr => by
    have k1 : vD n (vP n B 1 u) (vP n B 0 (vE r)) = vD n u (vP n B (1 + 0) (vE r)) := vP_D sy 1 0
    exact k1.symm.trans (vE_D hr)
  have W : ∀ r s, r < n → vD n (vP n B 1 (vE r)) (vP n B 1 (vE s)) = vP n B 2 (vE s) r := fun r s hr => by
    have k1 : vD n (vP n B 1 (vE r)) (vP n B 1 (vE s)) = vD n (vE r) (vP n B (1 + 1) (vE s)) := vP_D sy 1 1
    exact k1.trans (vD_comm.trans (vE_D hr))
  have S1 : vS (fun r => vD n (vP n B 1 (vE r)) (vP n B 1 (vE r))) n = vTr n B 2 := vS_c n (fun r _ => X r)
  have S2 : vS (fun r => vD n u (vP n B 1 (vE r)) * vD n u (vP n B 1 (vE r))) n = vM n B u 2 := by
    have e : vD n (vP n B 1 u) (vP n B 1 u) = vM n B u 2 := vP_D sy 1 1
    rw [← e]
    exact vS_c n (fun r hr => by rw [A r hr])
  have S3 : v2 n (fun r s => vD n (vP n B 1 (vE r)) (vP n B 1 (vE s)) * vD n (vP n B 1 (vE r)) (vP n B 1 (vE s))) = vTr n B 4 := by
    rw [v2_c (G := fun r s => vP n B 2 (vE s) r * vP n B 2 (vE s) r) (fun r s hr hs => by rw [W r s hr]), ← v2_swap]
    refine vS_c n (fun s _ => ?_)
    exact vP_D sy 2 2
  have S4 : v2 n (fun r s => vD n u (vP n B 1 (vE s)) * (vD n u (vP n B 1 (vE r)) * vD n (vP n B 1 (vE r)) (vP n B 1 (vE s)))) = vM n B u 4 := by
    rw [v2_c (G := fun r s => vP n B 1 u s * (vP n B 1 u r * vP n B 2 (vE s) r)) (fun r s hr hs => by rw [W r s hr, A r hr, A s hs]), ← v2_swap]
    have e : vD n (vP n B 1 u) (vP n B 3 u) = vM n B u 4 := vP_D sy 1 3
    rw [← e]
    refine vS_c n (fun s hs => ?_)
    show vS (fun r => vP n B 1 u s * (vP n B 1 u r * vP n B 2 (vE s) r)) n = vP n B 1 u s * vP n B 3 u s
    rw [vS_mul]
    congr 1
    have k1 : vD n (vP n B 1 u) (vP n B 2 (vE s)) = vD n u (vP n B (1 + 2) (vE s)) := vP_D sy 1 2
    have k2 : vD n (vP n B 3 u) (vP n B 0 (vE s)) = vD n u (vP n B (3 + 0) (vE s)) := vP_D sy 3 0
    exact k1.trans (k2.symm.trans (vE_D hs))
  rw [v2_sub, v2_add, v2_sub, v2_sub, v2_mul, v2_mul, v2_mul, v2_prod, v2_prod, v2_prod, S1, S2, S3, S4] at h
  have U : vM n B u 0 = vD n u u := rfl
  rw [U]
  generalize vTr n B 2 = p2 at *
  generalize vTr n B 4 = p4 at *
  generalize vD n u u = m0 at *
  generalize vM n B u 2 = m2 at *
  generalize vM n B u 4 = m4 at *
  have e : (p2 * p2 - p4) * m0 - 2 * (p2 * m2) + 2 * m4 = m0 * (p2 * p2) - m0 * p4 - m2 * p2 + 2 * m4 - p2 * m2 := by grind
  rw [e]
  exact h
/-! the sums of minors of the table without its last row, and its moments -/
def tg (l : List Int) : List Int := l.map (fun c => -c)
def tl (b : Nat → Int) : Nat → List Int
  | 0 => [1]
  | k + 1 => b (k + 1) :: tg (tl b k)
/-- Newton, and that the last table is nothing -/
def nw (b P : Nat → Int) : Prop := P 0 = 5 ∧ P 1 = b 1 ∧ P 2 = b 1 * P 1 - 2 * b 2 ∧ P 3 = b 1 * P 2 - b 2 * P 1 + 3 * b 3 ∧ P 4 = b 1 * P 3 - b 2 * P 2 + b 3 * P 1 - 4 * b 4 ∧ P 5 = b 1 * P 4 - b 2 * P 3 + b 3 * P 2 - b 4 * P 1 + 5 * b 5 ∧ P 6 = b 1 * P 5 - b 2 * P 4 + b 3 * P 3 - b 4 * P 2 + b 5 * P 1
def ch (b M : Nat → Int) : Prop := ∀ k, M (k + 5) = b 1 * M (k + 4) - b 2 * M (k + 3) + b 3 * M (k + 2) - b 4 * M (k + 1) + b 5 * M k
def qf (b M : Nat → Int) : Nat → Int
  | 0 => 0
  | 1 => q1 M (tl b 0) 0
  | m + 2 => b (m + 1) * q1 M (tl b (m + 1)) 0 - b (m + 2) * q1 M (tl b m) 0
set_option maxHeartbeats 4000000 in
theorem id2 (hN : nw b P) : 2 * qf b M 2 = qL M (tl b 1) (tl b 1) 0 + yL M P [[], [1]] 0 [[], [1]] 0 := by
  obtain ⟨n0, n1, n2, -, -, -, -⟩ := hN
  simp only [qf, tl, tg, List.map, q1, qL, yL, yS, Nat.reduceAdd, n1, n2]
  grind
set_option maxHeartbeats 4000000 in
theorem id3 (hN : nw b P) : 6 * qf b M 3 = 2 * qL M (tl b 2) (tl b 2) 0 + yL M P [[], [b 1, -1], [-1]] 0 [[], [b 1, -1], [-1]] 0 + ((P 2 * P 2 - P 4) * M 0 - 2 * (P 2 * M 2) + 2 * M 4) := by
  obtain ⟨n0, n1, n2, n3, n4, -, -⟩ := hN
  simp only [qf, tl, tg, List.map, q1, qL, yL, yS, Nat.reduceAdd, n4, n3, n2, n1]
  grind
set_option maxHeartbeats 8000000 in
theorem id4 (hN : nw b P) (hC : ch b M) : 2 * qf b M 4 = qL M (tl b 3) (tl b 3) 0 + yL M P [tl b 3, tg (tl b 2), tl b 1, [-1]] 0 [tl b 3, tg (tl b 2), tl b 1, [-1]] 0 := by
  obtain ⟨n0, n1, n2, n3, n4, n5, n6⟩ := hN
  have c5 := hC 0
  have c6 := hC 1
  simp only [Nat.reduceAdd, Nat.zero_add] at c5 c6
  simp only [qf, tl, tg, List.map, q1, qL, yL, yS, Nat.reduceAdd, n6, n5, n4, n3, n2, n1, n0, c6, c5]
  grind
set_option maxHeartbeats 8000000 in
theorem id5 (hC : ch b M) : qf b M 5 = qL M (tl b 4) (tl b 4) 0 := by
  have c5 := hC 0
  have c6 := hC 1
  have c7 := hC 2
  have c8 := hC 3
  simp only [Nat.reduceAdd, Nat.zero_add] at c5 c6 c7 c8
  simp only [qf, tl, tg, List.map, q1, qL, Nat.reduceAdd, c8, c7, c6, c5]
  grind
theorem qf_nn (sy : ∀ i j, i < 5 → j < 5 → B i j = B j i) (hN : nw b (vTr 5 B)) (hC : ch b (vM 5 B u)) : ∀ m, m ≤ 5 → 0 ≤ qf b (vM 5 B u) m := fun m hm => by
  rcases (show m = 0 ∨ m = 1 ∨ m = 2 ∨ m = 3 ∨ m = 4 ∨ m = 5 by omega) with e | e | e | e | e | e
  · rw [e]
    exact Int.le_refl 0
  · rw [e]
    show 0 ≤ 1 * vM 5 B u 0 + 0
    have : 0 ≤ vM 5 B u 0 := vD_nn
    omega
  · rw [e]
    have h := id2 (M := vM 5 B u) hN
    have h1 := vL_sq (u := u) sy (tl b 1)
    have h2 := y_nn (u := u) sy [[], [1]]
    omega
  · rw [e]
    have h := id3 (M := vM 5 B u) hN
    have h1 := vL_sq (u := u) sy (tl b 2)
    have h2 := y_nn (u := u) sy [[], [b 1, -1], [-1]]
    have h3 := gr3 (u := u) sy
    omega
  · rw [e]
    have h := id4 (M := vM 5 B u) hN hC
    have h1 := vL_sq (u := u) sy (tl b 3)
    have h2 := y_nn (u := u) sy [tl b 3, tg (tl b 2), tl b 1, [-1]]
    omega
  · rw [e]
    have h := id5 hC
    have h1 := vL_sq (u := u) sy (tl b 4)
    omega
/-! sums over the rows -/
theorem q1_s {F : Nat → Nat → Int} : ∀ (ds : List Int) (m : Nat), vS (fun r => q1 (F r) ds m) n = q1 (fun k => vS (fun r => F r k) n) ds m
  | [], m => vS_zero n
  | d :: ds, m => by
    show vS (fun r => d * F r m + q1 (F r) ds (m + 1)) n = d * vS (fun r => F r m) n + q1 (fun k => vS (fun r => F r k) n) ds (m + 1)
    rw [vS_add, vS_mul, q1_s ds (m + 1)]
theorem q1_sh {M' : Nat → Int} (h : ∀ k, M' k = M (k + 2)) : ∀ (ds : List Int) (m : Nat), q1 M' ds m = q1 M ds (m + 2)
  | [], _ => rfl
  | d :: ds, m => by
    show d * M' m + q1 M' ds (m + 1) = d * M (m + 2) + q1 M ds (m + 2 + 1)
    rw [h, q1_sh h ds (m + 1)]
theorem qf_s (sy : ∀ i j, i < n → j < n → B i j = B j i) {m : Nat} : vS (fun r => qf b (vM n B (vB n B (vE r))) (m + 2)) n = b (m + 1) * q1 (vTr n B) (tl b (m + 1)) 2 - b (m + 2) * q1 (vTr n B) (tl b m) 2 := by
  have k : ∀ r k, vM n B (vB n B (vE r)) k = vM n B (vE r) (k + 2) := fun r k => by
    have h1 : ∀ k, vP n B k (vB n B (vE r)) = vP n B (k + 1) (vE r) := fun k => by
      induction k with
      | zero => rfl
      | succ k ih =>
        show vB n B (vP n B k (vB n B (vE r))) = vB n B (vP n B (k + 1) (vE r))
        rw [ih]
    have h2 : vD n (vP n B 1 (vE r)) (vP n B (k + 1) (vE r)) = vD n (vE r) (vP n B (1 + (k + 1)) (vE r)) := vP_D sy 1 (k + 1)
    unfold vM
    rw [h1, show k + 2 = 1 + (k + 1) by omega]
    exact h2
  have e : ∀ r, r < n → qf b (vM n B (vB n B (vE r))) (m + 2) = b (m + 1) * q1 (vM n B (vE r)) (tl b (m + 1)) 2 - b (m + 2) * q1 (vM n B (vE r)) (tl b m) 2 := fun r _ => by
    show b (m + 1) * q1 (vM n B (vB n B (vE r))) (tl b (m + 1)) 0 - b (m + 2) * q1 (vM n B (vB n B (vE r))) (tl b m) 0 = _
    rw [q1_sh (k r), q1_sh (k r)]
  rw [vS_c n e, vS_sub, vS_mul, vS_mul, q1_s, q1_s]
  rfl
theorem nm_nn (sy : ∀ i j, i < 5 → j < 5 → B i j = B j i) (b0 : b 0 = 1) (b6 : b 6 = 0) (hN : nw b (vTr 5 B)) (hC : ∀ u, ch b (vM 5 B u)) : ∀ m, 1 ≤ m → m ≤ 5 → 0 ≤ b m * b m - b (m + 1) * b (m - 1) ∧ (b m * b m - b (m + 1) * b (m - 1) = 0 → b m = 0) := fun m h1 hm => by
  have key : ∀ {c x s : Int}, 0 < c → c * x = b m * b m + s → 0 ≤ s → 0 ≤ x ∧ (x = 0 → b m = 0) := fun {c x s} c0 e s0 => by
    have q := sq_nn (b m)
    refine ⟨?_, fun z => ?_⟩
    · refine Int.nonneg_of_mul_nonneg_right (a := c) ?_ c0
      omega
    · rw [z, Int.mul_zero] at e
      exact sq_e0 (by omega)
  have S : ∀ m, m ≤ 3 → 0 ≤ vS (fun r => qf b (vM 5 B (vB 5 B (vE r))) (m + 2)) 5 := fun m hm => vS_nn 5 (fun r _ => qf_nn sy hN (hC _) (m + 2) (by omega))
  obtain ⟨n0, n1, n2, n3, n4, n5, n6⟩ := hN
  rcases (show m = 1 ∨ m = 2 ∨ m = 3 ∨ m = 4 ∨ m = 5 by omega) with e | e | e | e | e
  · subst e
    have p2 : 0 ≤ vTr 5 B 2 := vS_nn 5 (fun r _ => by
      have h : vD 5 (vP 5 B 1 (vE r)) (vP 5 B 1 (vE r)) = vM 5 B (vE r) 2 := vP_D sy 1 1
      rw [← h]
      exact vD_nn)
    refine key (c := 2) (s := vTr 5 B 2) (by decide) ?_ p2
    show 2 * (b 1 * b 1 - b 2 * b 0) = _
    rw [n2, n1, b0]
    grind
  · subst e
    refine key (c := 3) (by decide) ?_ (S 0 (by decide))
    rw [qf_s sy]
    simp only [tl, tg, List.map, q1, Nat.reduceAdd, Nat.reduceSub, Nat.zero_add, n4, n3, n2, n1]
    grind
  · subst e
    refine key (c := 4) (by decide) ?_ (S 1 (by decide))
    rw [qf_s sy]
    simp only [tl, tg, List.map, q1, Nat.reduceAdd, Nat.reduceSub, n4, n3, n2, n1]
    grind
  · subst e
    refine key (c := 5) (by decide) ?_ (S 2 (by decide))
    rw [qf_s sy]
    simp only [tl, tg, List.map, q1, Nat.reduceAdd, Nat.reduceSub, n5, n4, n3, n2, n1]
    grind
  · subst e
    refine key (c := 1) (s := 0) (by decide) ?_ (Int.le_refl 0)
    show 1 * (b 5 * b 5 - b 6 * b 4) = _
    rw [b6]
    grind
/-- the sums of minors of the table with its last row -/
def af (b M : Nat → Int) (z : Int) : Nat → Int
  | 0 => 1
  | 1 => b 1 + z
  | k + 2 => b (k + 2) + z * b (k + 1) - q1 M (tl b k) 0
theorem xm_nn (sy : ∀ i j, i < 5 → j < 5 → B i j = B j i) (b0 : b 0 = 1) (b6 : b 6 = 0) (hN : nw b (vTr 5 B)) (hC : ∀ u, ch b (vM 5 B u)) {z : Int} : ∀ m, 1 ≤ m → m ≤ 5 → 0 ≤ af b (vM 5 B u) z m * b m - af b (vM 5 B u) z (m + 1) * b (m - 1) ∧ (af b (vM 5 B u) z m * b m - af b (vM 5 B u) z (m + 1) * b (m - 1) = 0 → b m = 0) := fun m h1 hm => by
  obtain ⟨k1, k2⟩ := nm_nn sy b0 b6 hN hC m h1 hm
  have k3 := qf_nn (u := u) sy hN (hC u) m hm
  have e : af b (vM 5 B u) z m * b m - af b (vM 5 B u) z (m + 1) * b (m - 1) = b m * b m - b (m + 1) * b (m - 1) + qf b (vM 5 B u) m := by
    match m, h1 with
    | 1, _ =>
      show (b 1 + z) * b 1 - (b 2 + z * b 1 - q1 (vM 5 B u) (tl b 0) 0) * b 0 = b 1 * b 1 - b 2 * b 0 + q1 (vM 5 B u) (tl b 0) 0
      rw [b0]
      generalize q1 (vM 5 B u) (tl b 0) 0 = q
      grind
    | m + 2, _ =>
      show (b (m + 2) + z * b (m + 1) - q1 (vM 5 B u) (tl b m) 0) * b (m + 2) - (b (m + 3) + z * b (m + 2) - q1 (vM 5 B u) (tl b (m + 1)) 0) * b (m + 1) = b (m + 2) * b (m + 2) - b (m + 3) * b (m + 1) + (b (m + 1) * q1 (vM 5 B u) (tl b (m + 1)) 0 - b (m + 2) * q1 (vM 5 B u) (tl b m) 0)
      generalize q1 (vM 5 B u) (tl b (m + 1)) 0 = q
      generalize q1 (vM 5 B u) (tl b m) 0 = q'
      generalize b (m + 3) = b3
      generalize b (m + 2) = b2
      generalize b (m + 1) = b1
      grind
  rw [e]
  exact ⟨by omega, fun w => k2 (by omega)⟩
end MX1
