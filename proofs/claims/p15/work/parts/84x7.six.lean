/-! ===== 84x7: Newton, and that the last table is nothing, for symmetric tables of six rows ===== -/
section MX7
variable {ρ : Nat → Int} {A A' : Nat → Nat → Int} {x y u v : Nat → Int} {n : Nat} {B : Nat → Nat → Int} {d : Int}
/-! the sums of minors of the tables without one row -/
def rnt : Nat → po_P → po_P
  | 0, p => p
  | t + 1, p => po_rn ro_s (rnt t p)
def rqk (k : Nat) : Bool := po_be (gk_sum po_add [] (fun t => rnt (t + 1) (tB k)) 6) (po_sc ([], 6 - (k : Int)) (lp_E po_add po_mul po_neg [] po_o po_M 6 k))
theorem rqk0 : rqk 0 = true := by decide +kernel
theorem rqk1 : rqk 1 = true := by decide +kernel
theorem rqk2 : rqk 2 = true := by decide +kernel
theorem rqk3 : rqk 3 = true := by decide +kernel
theorem rqk4 : rqk 4 = true := by decide +kernel
theorem rqk5 : rqk 5 = true := by decide +kernel
theorem ro_f (sy : ∀ i j, i < 6 → j < 6 → A i j = A j i) : (fun x => tR A (ro_s x)) = tR (ro 1 A) := funext (fun x => by
  show A (ro_s x / 6) (ro_s x % 6) = A ((x / 6 + 1) % 6) ((x % 6 + 1) % 6)
  have l1 : (x / 6 + 1) % 6 < 6 := Nat.mod_lt _ (by decide)
  have l2 : (x % 6 + 1) % 6 < 6 := Nat.mod_lt _ (by decide)
  unfold ro_s
  generalize (x / 6 + 1) % 6 = a at *
  generalize (x % 6 + 1) % 6 = b at *
  cases Nat.blt a b with
  | true =>
    show A ((6 * a + b) / 6) ((6 * a + b) % 6) = _
    rw [show (6 * a + b) / 6 = a by omega, show (6 * a + b) % 6 = b by omega]
  | false =>
    show A ((6 * b + a) / 6) ((6 * b + a) % 6) = _
    rw [show (6 * b + a) / 6 = b by omega, show (6 * b + a) % 6 = a by omega]
    exact sy b a l2 l1)
theorem ro_sy {t : Nat} (sy : ∀ i j, i < 6 → j < 6 → A i j = A j i) : ∀ i j, i < 6 → j < 6 → ro t A i j = ro t A j i := fun i j _ _ => sy _ _ (Nat.mod_lt _ (by decide)) (Nat.mod_lt _ (by decide))
theorem ro_a {t : Nat} : ro t (ro 1 A) = ro (t + 1) A := funext (fun i => funext (fun j => by
  show A (((i + t) % 6 + 1) % 6) (((j + t) % 6 + 1) % 6) = A ((i + (t + 1)) % 6) ((j + (t + 1)) % 6)
  rw [show ((i + t) % 6 + 1) % 6 = (i + (t + 1)) % 6 by omega, show ((j + t) % 6 + 1) % 6 = (j + (t + 1)) % 6 by omega]))
theorem rnt_e {p : po_P} : ∀ (t : Nat) (A : Nat → Nat → Int), (∀ i j, i < 6 → j < 6 → A i j = A j i) → po_ev (tR A) (rnt (t + 1) p) = po_ev (tR (ro (t + 1) A)) p
  | 0, A, sy => by
    show po_ev (tR A) (po_rn ro_s p) = _
    rw [po_rne, ro_f sy]
  | t + 1, A, sy => by
    show po_ev (tR A) (po_rn ro_s (rnt (t + 1) p)) = _
    rw [po_rne, ro_f sy, rnt_e t (ro 1 A) (ro_sy sy), ro_a]
def z6a (A : Nat → Nat → Int) (k : Nat) : Int := if k < 7 then zE (zB A) 6 k else 0
theorem z6a_e {k : Nat} (hk : k < 7) : z6a A k = zE (zB A) 6 k := if_pos hk
theorem rq_s (sy : ∀ i j, i < 6 → j < 6 → A i j = A j i) {k : Nat} (hk : k < 7) : vS (fun t => zb (ro (t + 1) A) k) 6 = (6 - (k : Int)) * z6a A k := by
  by_cases z : k = 6
  · subst z
    have e : ∀ t, t < 6 → zb (ro (t + 1) A) 6 = 0 := fun _ _ => rfl
    rw [vS_c 6 e, vS_zero]
    show 0 = (6 - (6 : Int)) * z6a A 6
    rw [show (6 : Int) - 6 = 0 by decide, Int.zero_mul]
  · have h : rqk k = true := by
      rcases (show k = 0 ∨ k = 1 ∨ k = 2 ∨ k = 3 ∨ k = 4 ∨ k = 5 by omega) with e | e | e | e | e | e
      · rw [e]; exact rqk0
      · rw [e]; exact rqk1
      · rw [e]; exact rqk2
      · rw [e]; exact rqk3
      · rw [e]; exact rqk4
      · rw [e]; exact rqk5
    have e := congrArg (po_ev (tR A)) (po_bee _ _ h)
    rw [gk_sum_h (φ := po_ev (tR A)) po_H, gk_vS, po_sce, lp_E_h po_H] at e
    rw [z6a_e hk]
    have e2 : ∀ t, t < 6 → zb (ro (t + 1) A) k = po_ev (tR A) (rnt (t + 1) (tB k)) := fun t _ => by
      rw [rnt_e t A sy, tB_e (by omega)]
    rw [vS_c 6 e2]
    refine e.trans ?_
    show (6 - (k : Int)) * 1 * zE (zB A) 6 k = _
    rw [Int.mul_one]
/-! the last row -/
theorem T_s {b : Nat → Int} {k i : Nat} : vL n B x (tl b (k + 1)) 0 i = b (k + 1) * x i - vB n B (vL n B x (tl b k) 0) i := by
  show b (k + 1) * x i + vL n B x (tg (tl b k)) 1 i = _
  rw [vL_neg, vL_up]
  exact Int.sub_eq_add_neg.symm
theorem zb_0 : zb A 0 = 1 := by
  rw [← tB_e (by decide)]
  exact po_o1
theorem z6a_0 : z6a A 0 = 1 := by
  rw [z6a_e (by decide), af_e (by decide)]
  rfl
theorem vB_6 {i : Nat} : vB 6 B y i = vB 5 B y i + B i 5 * y 5 := rfl
theorem col5 : ∀ k, k < 6 → (∀ i, i < 5 → vL 6 (zB A) (vE 5) (tl (z6a A) (k + 1)) 0 i = -vL 5 (zB A) (zB A 5) (tl (zb A) k) 0 i) ∧ vL 6 (zB A) (vE 5) (tl (z6a A) (k + 1)) 0 5 = zb A (k + 1)
  | 0, _ => by
    have v0 : ∀ j, vL 6 (zB A) (vE 5) (tl (z6a A) 0) 0 j = vE 5 j := fun j => by
      show 1 * vE 5 j + 0 = _
      omega
    have w : ∀ i, vB 6 (zB A) (vL 6 (zB A) (vE 5) (tl (z6a A) 0) 0) i = zB A i 5 := fun i => by
      rw [vB_c (y := vE 5) (fun j _ => v0 j)]
      exact vE_d 6 (by decide)
    refine ⟨fun i hi => ?_, ?_⟩
    · rw [T_s, w]
      have e5 : vE 5 i = 0 := if_neg (by omega)
      rw [e5, Int.mul_zero, zB_sy]
      show 0 - zB A 5 i = -(1 * zB A 5 i + 0)
      omega
    · rw [T_s, w]
      have e5 : vE 5 5 = 1 := rfl
      rw [e5, Int.mul_one, z6a_e (by decide), af_e (by decide)]
      show zb A 1 + zB A 5 5 - zB A 5 5 = zb A 1
      omega
  | k + 1, hk => by
    obtain ⟨h1, h2⟩ := col5 k (by omega)
    have w : ∀ i, vB 6 (zB A) (vL 6 (zB A) (vE 5) (tl (z6a A) (k + 1)) 0) i = -vB 5 (zB A) (vL 5 (zB A) (zB A 5) (tl (zb A) k) 0) i + zB A i 5 * zb A (k + 1) := fun i => by
      rw [vB_6, h2, vB_c (y := fun j => -1 * vL 5 (zB A) (zB A 5) (tl (zb A) k) 0 j) (fun j hj => by rw [h1 j hj]; omega), vB_mul]
      omega
    refine ⟨fun i hi => ?_, ?_⟩
    · rw [T_s, w, T_s]
      have e5 : vE 5 i = 0 := if_neg (by omega)
      rw [e5, Int.mul_zero, zB_sy (i := i), Int.mul_comm (zB A 5 i)]
      omega
    · rw [T_s, w]
      have e5 : vE 5 5 = 1 := rfl
      have q : vB 5 (zB A) (vL 5 (zB A) (zB A 5) (tl (zb A) k) 0) 5 = q1 (vM 5 (zB A) (zB A 5)) (tl (zb A) k) 0 := by
        have h : vD 5 (vP 5 (zB A) 0 (zB A 5)) (vL 5 (zB A) (zB A 5) (tl (zb A) k) 0) = q1 (vM 5 (zB A) (zB A 5)) (tl (zb A) k) (0 + 0) := vL_1 (fun i j _ _ => zB_sy) (tl (zb A) k) 0
        exact h
      rw [e5, Int.mul_one, z6a_e (by omega), af_e (by omega), q]
      show zb A (k + 2) + zB A 5 5 * zb A (k + 1) - q1 (vM 5 (zB A) (zB A 5)) (tl (zb A) k) 0 - (-q1 (vM 5 (zB A) (zB A 5)) (tl (zb A) k) 0 + zB A 5 5 * zb A (k + 1)) = zb A (k + 2)
      omega
theorem col0 {i : Nat} (hi : i < 6) : vL 6 (zB A) (vE 5) (tl (z6a A) 6) 0 i = 0 := by
  obtain ⟨h1, h2⟩ := col5 (A := A) 5 (by decide)
  by_cases z : i = 5
  · rw [z, h2]
    rfl
  · rw [h1 i (by omega), tv_0 (by omega)]
    rfl
/-! every row -/
theorem ro_S1 {f : Nat → Int} : vS (fun j => f ((j + 1) % 6)) 6 = vS f 6 := by
  show 0 + f 1 + f 2 + f 3 + f 4 + f 5 + f 0 = 0 + f 0 + f 1 + f 2 + f 3 + f 4 + f 5
  omega
theorem ro_S : ∀ (t : Nat) (f : Nat → Int), vS (fun j => f ((j + t) % 6)) 6 = vS f 6
  | 0, f => vS_c 6 (fun j hj => by rw [Nat.add_zero, Nat.mod_eq_of_lt hj])
  | t + 1, f => by
    have h := ro_S1 (f := fun j => f ((j + t) % 6))
    rw [ro_S t f] at h
    rw [← h]
    exact vS_c 6 (fun j _ => by
      show f ((j + (t + 1)) % 6) = f (((j + 1) % 6 + t) % 6)
      rw [show ((j + 1) % 6 + t) % 6 = (j + (t + 1)) % 6 by omega])
theorem zB_ro (sy : ∀ i j, i < 6 → j < 6 → A i j = A j i) {t i j : Nat} (hi : i < 6) (hj : j < 6) : zB (ro t A) i j = zB A ((i + t) % 6) ((j + t) % 6) := by
  rw [zB_e hi hj (ro_sy sy i j hi hj), zB_e (Nat.mod_lt _ (by decide)) (Nat.mod_lt _ (by decide)) (sy _ _ (Nat.mod_lt _ (by decide)) (Nat.mod_lt _ (by decide)))]
  rfl
theorem vP_ro (sy : ∀ i j, i < 6 → j < 6 → A i j = A j i) {t : Nat} (hx : ∀ i, i < 6 → x i = y ((i + t) % 6)) : ∀ k i : Nat, i < 6 → vP 6 (zB (ro t A)) k x i = vP 6 (zB A) k y ((i + t) % 6)
  | 0, i, hi => hx i hi
  | k + 1, i, hi => by
    show vS (fun j => zB (ro t A) i j * vP 6 (zB (ro t A)) k x j) 6 = vS (fun j => zB A ((i + t) % 6) j * vP 6 (zB A) k y j) 6
    rw [← ro_S t (fun j => zB A ((i + t) % 6) j * vP 6 (zB A) k y j)]
    exact vS_c 6 (fun j hj => by rw [zB_ro sy hi hj, vP_ro sy hx k j hj])
theorem vL_ro (sy : ∀ i j, i < 6 → j < 6 → A i j = A j i) {t : Nat} (hx : ∀ i, i < 6 → x i = y ((i + t) % 6)) : ∀ (cs : List Int) (a i : Nat), i < 6 → vL 6 (zB (ro t A)) x cs a i = vL 6 (zB A) y cs a ((i + t) % 6)
  | [], _, _, _ => rfl
  | c :: cs, a, i, hi => by
    show c * vP 6 (zB (ro t A)) a x i + vL 6 (zB (ro t A)) x cs (a + 1) i = c * vP 6 (zB A) a y ((i + t) % 6) + vL 6 (zB A) y cs (a + 1) ((i + t) % 6)
    rw [vP_ro sy hx a i hi, vL_ro sy hx cs (a + 1) i hi]
theorem z6a_ro (sy : ∀ i j, i < 6 → j < 6 → A i j = A j i) {t : Nat} : z6a (ro t A) = z6a A := funext (fun k => by
  unfold z6a
  by_cases z : k < 7
  · rw [if_pos z, if_pos z, ro_t sy (by omega) t]
  · rw [if_neg z, if_neg z])
theorem vE_ro {r : Nat} (hr : r < 6) : ∀ i, i < 6 → vE 5 i = vE r ((i + (r + 1)) % 6) := fun i hi => by
  unfold vE
  by_cases z : i = 5
  · rw [if_pos z, if_pos (by omega)]
  · rw [if_neg z, if_neg (by omega)]
theorem colr (sy : ∀ i j, i < 6 → j < 6 → A i j = A j i) {r i : Nat} (hr : r < 6) (hi : i < 6) : vL 6 (zB A) (vE r) (tl (z6a A) 6) 0 i = 0 := by
  have h := vL_ro (t := r + 1) sy (vE_ro hr) (tl (z6a A) 6) 0 ((i + 6 - (r + 1)) % 6) (Nat.mod_lt _ (by decide))
  rw [show ((i + 6 - (r + 1)) % 6 + (r + 1)) % 6 = i by omega] at h
  rw [← h, ← z6a_ro sy (t := r + 1)]
  exact col0 (Nat.mod_lt _ (by decide))
theorem dia (sy : ∀ i j, i < 6 → j < 6 → A i j = A j i) {r k : Nat} (hr : r < 6) (hk : k < 6) : vL 6 (zB A) (vE r) (tl (z6a A) (k + 1)) 0 r = zb (ro (r + 1) A) (k + 1) := by
  have h := vL_ro (t := r + 1) sy (vE_ro hr) (tl (z6a A) (k + 1)) 0 5 (by decide)
  rw [show (5 + (r + 1)) % 6 = r by omega] at h
  rw [← h, ← z6a_ro sy (t := r + 1)]
  exact (col5 k hk).2
theorem vL_sy (sy : ∀ i j, i < n → j < n → B i j = B j i) : ∀ (cs : List Int) (a : Nat), vD n y (vL n B x cs a) = vD n (vL n B y cs a) x
  | [], _ => by
    unfold vD
    exact ((vS_c n (fun i _ => Int.mul_zero _)).trans (vS_zero n)).trans ((vS_c n (fun i _ => Int.zero_mul _)).trans (vS_zero n)).symm
  | c :: cs, a => by
    have e1 : ∀ i, i < n → y i * (c * vP n B a x i + vL n B x cs (a + 1) i) = c * (y i * vP n B a x i) + y i * vL n B x cs (a + 1) i := fun i _ => by
      rw [Int.mul_add, Int.mul_left_comm]
    have e2 : ∀ i, i < n → (c * vP n B a y i + vL n B y cs (a + 1) i) * x i = c * (vP n B a y i * x i) + vL n B y cs (a + 1) i * x i := fun i _ => by
      rw [Int.add_mul, Int.mul_assoc]
    show vS (fun i => y i * (c * vP n B a x i + vL n B x cs (a + 1) i)) n = vS (fun i => (c * vP n B a y i + vL n B y cs (a + 1) i) * x i) n
    rw [vS_c n e1, vS_c n e2, vS_add, vS_add, vS_mul, vS_mul]
    have h1 : vS (fun i => y i * vP n B a x i) n = vS (fun i => vP n B a y i * x i) n := by
      have h : vD n (vP n B a y) (vP n B 0 x) = vD n y (vP n B (a + 0) x) := vP_D sy a 0
      exact h.symm
    have h2 : vS (fun i => y i * vL n B x cs (a + 1) i) n = vS (fun i => vL n B y cs (a + 1) i * x i) n := vL_sy sy cs (a + 1)
    rw [h1, h2]
theorem T6_0 (sy : ∀ i j, i < 6 → j < 6 → A i j = A j i) {i : Nat} (hi : i < 6) : vL 6 (zB A) x (tl (z6a A) 6) 0 i = 0 := by
  have h : vD 6 (vL 6 (zB A) x (tl (z6a A) 6) 0) (vE i) = vL 6 (zB A) x (tl (z6a A) 6) 0 i := vE_D hi
  rw [← h, vD_comm, vL_sy (fun i j _ _ => zB_sy)]
  exact (vS_c 6 (fun j hj => by rw [colr sy hi hj, Int.zero_mul])).trans (vS_zero 6)
theorem z6a_ch (sy : ∀ i j, i < 6 → j < 6 → A i j = A j i) : ch6 (z6a A) (vM 6 (zB A) u) := fun k => by
  have h := vL_1 (u := u) (B := zB A) (n := 6) (fun i j _ _ => zB_sy) (a := k) (tl (z6a A) 6) 0
  have z : vD 6 (vP 6 (zB A) k u) (vL 6 (zB A) u (tl (z6a A) 6) 0) = 0 := (vS_c 6 (fun i hi => by rw [T6_0 sy hi, Int.mul_zero])).trans (vS_zero 6)
  rw [z] at h
  simp only [tl, tg, List.map, q1, Nat.add_zero, Nat.reduceAdd] at h
  generalize vM 6 (zB A) u = M at *
  generalize z6a A = b at *
  have e1 : k + 1 + 1 = k + 2 := rfl
  have e2 : k + 1 + 1 + 1 = k + 3 := rfl
  have e3 : k + 1 + 1 + 1 + 1 = k + 4 := rfl
  have e4 : k + 1 + 1 + 1 + 1 + 1 = k + 5 := rfl
  have e5 : k + 1 + 1 + 1 + 1 + 1 + 1 = k + 6 := rfl
  simp only [e1, e2, e3, e4, e5, Int.neg_mul, Int.neg_neg, Int.one_mul] at h
  omega
theorem z6a_nw (sy : ∀ i j, i < 6 → j < 6 → A i j = A j i) : nw6 (z6a A) (vTr 6 (zB A)) := by
  have p0 : vTr 6 (zB A) 0 = 6 := by
    show vS (fun r => vS (fun i => vE r i * vE r i) 6) 6 = 6
    decide
  have tr : ∀ k, k < 6 → q1 (vTr 6 (zB A)) (tl (z6a A) k) 1 = ((k : Int) + 1) * z6a A (k + 1) := fun k hk => by
    have e : ∀ r, r < 6 → vD 6 (vP 6 (zB A) 1 (vE r)) (vL 6 (zB A) (vE r) (tl (z6a A) k) 0) = z6a A (k + 1) - zb (ro (r + 1) A) (k + 1) := fun r hr => by
      have k1 : vD 6 (vP 6 (zB A) 1 (vE r)) (vL 6 (zB A) (vE r) (tl (z6a A) k) 0) = vD 6 (vE r) (vB 6 (zB A) (vL 6 (zB A) (vE r) (tl (z6a A) k) 0)) := (vD_sym (fun i j _ _ => zB_sy)).symm
      rw [k1, vD_comm, vE_D hr, ← dia sy hr hk, T_s]
      have e5 : vE r r = 1 := if_pos rfl
      rw [e5, Int.mul_one]
      omega
    have s : vS (fun r => vD 6 (vP 6 (zB A) 1 (vE r)) (vL 6 (zB A) (vE r) (tl (z6a A) k) 0)) 6 = q1 (vTr 6 (zB A)) (tl (z6a A) k) 1 := by
      unfold vTr
      rw [← q1_s]
      exact vS_c 6 (fun r _ => vL_1 (u := vE r) (B := zB A) (n := 6) (fun i j _ _ => zB_sy) (a := 1) (tl (z6a A) k) 0)
    have c6 : vS (fun _ => z6a A (k + 1)) 6 = 6 * z6a A (k + 1) := by
      show 0 + z6a A (k + 1) + z6a A (k + 1) + z6a A (k + 1) + z6a A (k + 1) + z6a A (k + 1) + z6a A (k + 1) = _
      omega
    rw [← s, vS_c 6 e, vS_sub, rq_s sy (by omega), c6, ← Int.sub_mul]
    congr 1
    omega
  have c : ∀ k, vTr 6 (zB A) (k + 6) = z6a A 1 * vTr 6 (zB A) (k + 5) - z6a A 2 * vTr 6 (zB A) (k + 4) + z6a A 3 * vTr 6 (zB A) (k + 3) - z6a A 4 * vTr 6 (zB A) (k + 2) + z6a A 5 * vTr 6 (zB A) (k + 1) - z6a A 6 * vTr 6 (zB A) k := fun k => by
    unfold vTr
    rw [← vS_mul, ← vS_mul, ← vS_mul, ← vS_mul, ← vS_mul, ← vS_mul, ← vS_sub, ← vS_add, ← vS_sub, ← vS_add, ← vS_sub]
    exact vS_c 6 (fun r _ => z6a_ch sy k)
  have t0 := tr 0 (by decide)
  have t1 := tr 1 (by decide)
  have t2 := tr 2 (by decide)
  have t3 := tr 3 (by decide)
  have t4 := tr 4 (by decide)
  have t5 := tr 5 (by decide)
  have c1 := c 1
  have c2 := c 2
  generalize vTr 6 (zB A) = P at *
  generalize z6a A = b at *
  simp only [tl, tg, List.map, q1, Nat.reduceAdd, Nat.zero_add, Int.neg_mul, Int.neg_neg, Int.one_mul, Int.add_zero] at t0 t1 t2 t3 t4 t5 c1 c2
  refine ⟨p0, ?_, ?_, ?_, ?_, ?_, ?_, ?_, ?_⟩
  · omega
  · omega
  · omega
  · omega
  · omega
  · omega
  · omega
  · omega
/-! the table less d v v -/
theorem lv_zB (sy : ∀ i j, i < 6 → j < 6 → A i j = A j i) {i j : Nat} (hi : i < 6) (hj : j < 6) : zB (lv A v d) i j = lv (zB A) v d i j := by
  rw [zB_e hi hj (lv_sy sy i j hi hj)]
  unfold lv
  rw [zB_e hi hj (sy i j hi hj)]
def zq (A : Nat → Nat → Int) (v : Nat → Int) : Nat → Int
  | 0 => 0
  | k + 1 => q1 (vM 6 (zB A) v) (tl (z6a A) k) 0
theorem lv_e (sy : ∀ i j, i < 6 → j < 6 → A i j = A j i) {k : Nat} (hk : k ≤ 6) : zE (zB (lv A v d)) 6 k = zE (zB A) 6 k - d * zq A v k := by
  have tr : ∀ k, vTr 6 (zB (lv A v d)) k = ft d (vM 6 (zB A) v) (vTr 6 (zB A)) k 0 := fun k => by
    rw [← ft_0 (fun i j _ _ => zB_sy)]
    exact vS_c 6 (fun r _ => congrFun (vM_c (fun i j hi hj => lv_zB sy hi hj) (fun _ _ => rfl)) k)
  obtain ⟨h1, h2, h3, h4, h5, h6⟩ := ak_e (z6a_nw sy) (z6a_nw (A := lv A v d) (lv_sy sy)) tr
  rw [← z6a_e (by omega), ← z6a_e (by omega)]
  rcases (show k = 0 ∨ k = 1 ∨ k = 2 ∨ k = 3 ∨ k = 4 ∨ k = 5 ∨ k = 6 by omega) with e | e | e | e | e | e | e
  · subst e
    rw [z6a_0, z6a_0]
    show (1 : Int) = 1 - d * 0
    rw [Int.mul_zero]
    rfl
  · subst e; exact h1
  · subst e; exact h2
  · subst e; exact h3
  · subst e; exact h4
  · subst e; exact h5
  · subst e; exact h6
theorem zn_v (sy : ∀ i j, i < 6 → j < 6 → A i j = A j i) (d0 : 0 < d) : zn A ≤ zn (lv A v d) := by
  have hX := fun m (hm : m ≤ 5) => qf6 (u := v) (b := z6a A) (fun i j _ _ => zB_sy) (z6a_nw sy) (z6a_ch sy) m hm
  have X : ∀ m, m < 6 → 0 ≤ zE (zB A) 6 m * zq A v (m + 1) - zE (zB A) 6 (m + 1) * zq A v m ∧ (zE (zB A) 6 m * zq A v (m + 1) - zE (zB A) 6 (m + 1) * zq A v m = 0 → zq A v (m + 1) = 0) := fun m hm => by
    have h := hX m (by omega)
    rw [← z6a_e (by omega), ← z6a_e (by omega)]
    cases m with
    | zero =>
      have e : z6a A 0 * zq A v (0 + 1) - z6a A (0 + 1) * zq A v 0 = qf (z6a A) (vM 6 (zB A) v) (0 + 1) := by
        rw [z6a_0]
        show 1 * q1 (vM 6 (zB A) v) (tl (z6a A) 0) 0 - z6a A 1 * 0 = q1 (vM 6 (zB A) v) (tl (z6a A) 0) 0
        rw [Int.mul_zero, Int.one_mul, Int.sub_zero]
      rw [e]
      exact h
    | succ m => exact h
  have a0 : zE (zB A) 6 0 = 1 := af_e (by decide)
  have h := zi_mono (a := zE (zB A) 6) (b := zq A v) (d := d) (n := 6) d0 a0 rfl (fun m hm => (X m hm).1) (fun m hm => (X m hm).2) 6 (Nat.le_refl _)
  have c := zi_c (e := fun i => zE (zB A) 6 i - d * zq A v i) (e' := zE (zB (lv A v d)) 6) 6 (fun i hi => (lv_e sy hi).symm)
  rw [c] at h
  exact h
/-- fewer rows -/
theorem zi_rank (n6 : n ≤ 6) (sy : ∀ i j, i < n → j < n → A i j = A j i) (d0 : 0 < d) (h : ∀ i j, i < n → j < n → A' i j = A i j - d * (v i * v j)) : (zi (zE (zB A) n) n).1 ≤ (zi (zE (zB A') n) n).1 := by
  rw [← zn_p n6, ← zn_p n6]
  have k := zn_v (A := zp n A) (v := fun i => if i < n then v i else 0) (d := d) (fun i j hi hj => by
    by_cases q : i < n ∧ j < n
    · rw [zp_in q.1 q.2, zp_in q.2 q.1, sy i j q.1 q.2]
    · rw [zp_out (by omega), zp_out (by omega)]) d0
  refine Nat.le_trans k (Nat.le_of_eq (zn_c2 (fun i j _ _ => ?_)))
  show zp n A i j - d * ((if i < n then v i else 0) * (if j < n then v j else 0)) = zp n A' i j
  by_cases q : i < n ∧ j < n
  · rw [zp_in q.1 q.2, zp_in q.1 q.2, if_pos q.1, if_pos q.2, h i j q.1 q.2]
  · rw [zp_out (by omega), zp_out (by omega)]
    by_cases z : i < n
    · rw [if_pos z, if_neg (by omega), Int.mul_zero, Int.mul_zero]
      rfl
    · rw [if_neg z, Int.zero_mul, Int.mul_zero]
      rfl
end MX7
