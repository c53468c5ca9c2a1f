/-! ===== 84x3: sign changes never fall as diagonal entries are lowered ===== -/
section MX3
variable {A A' : Nat → Nat → Int} {x y u : Nat → Int} {n r k : Nat} {B B' M M' : Nat → Nat → Int} {d : Int} {e e' : Nat → Int} {ρ : Nat → Int} {σ : Nat → Nat}
abbrev gF (M : Nat → Nat → Int) (r k : Nat) : Int := gk_F (· + ·) (· * ·) (- ·) 0 1 M r k
abbrev gW (M : Nat → Nat → Int) (r m : Nat) : Nat → Int := gk_w (· + ·) (· * ·) 0 M r m
theorem gmv {i : Nat} : gk_mv (· + ·) (· * ·) 0 M r x i = vB r M x i := gk_vS r
theorem gW0 : gW M r 0 = M r := rfl
theorem gW1 : gW M r 1 = M r := rfl
theorem gW2 : gW M r 2 = vB r M (M r) := funext (fun _ => gmv)
theorem gW3 : gW M r 3 = vB r M (M r) := gW2
theorem gW4 : gW M r 4 = vB r M (vB r M (M r)) := funext (fun i => by
  show gk_mv (· + ·) (· * ·) 0 M r (gW M r 3) i = _
  rw [gW3]
  exact gmv)
theorem gF2 : gF M r 2 = -vM r M (M r) 0 := congrArg (fun t => -t) (gk_vS r)
theorem gF3 : gF M r 3 = vM r M (M r) 1 := by
  show gk_sum (· + ·) 0 (fun i => M r i * gk_mv (· + ·) (· * ·) 0 M r (M r) i) r = _
  rw [gk_vS]
  exact vS_c r (fun i _ => by rw [gmv]; rfl)
theorem gF4 (sy : ∀ i j, i < r → j < r → M i j = M j i) : gF M r 4 = -vM r M (M r) 2 := by
  show -gk_sum (· + ·) 0 (fun i => gW M r 2 i * gW M r 2 i) r = _
  rw [gk_vS, gW2]
  exact congrArg (fun t => -t) (vP_D (x := M r) (y := M r) sy 1 1)
theorem gF5 (sy : ∀ i j, i < r → j < r → M i j = M j i) : gF M r 5 = vM r M (M r) 3 := by
  show gk_sum (· + ·) 0 (fun i => gW M r 3 i * gk_mv (· + ·) (· * ·) 0 M r (gW M r 3) i) r = _
  rw [gk_vS, gW3]
  have h : vD r (vP r M 1 (M r)) (vP r M 2 (M r)) = vM r M (M r) 3 := vP_D sy 1 2
  rw [← h]
  exact vS_c r (fun i _ => by rw [gmv]; rfl)
theorem gF6 (sy : ∀ i j, i < r → j < r → M i j = M j i) : gF M r 6 = -vM r M (M r) 4 := by
  show -gk_sum (· + ·) 0 (fun i => gW M r 4 i * gW M r 4 i) r = _
  rw [gk_vS, gW4]
  exact congrArg (fun t => -t) (vP_D (x := M r) (y := M r) sy 2 2)
theorem af_e (hk : k ≤ 6) : zE (zB A) 6 k = af (zb A) (vM 5 (zB A) (zB A 5)) (zB A 5 5) k := by
  have F1 : gF (zB A) 5 1 = zB A 5 5 := rfl
  have F0 : gF (zB A) 5 0 = 1 := rfl
  have F2 := gF2 (M := zB A) (r := 5)
  have F3 := gF3 (M := zB A) (r := 5)
  have F4 := gF4 (M := zB A) (r := 5) (fun i j _ _ => zB_sy)
  have F5 := gF5 (M := zB A) (r := 5) (fun i j _ _ => zB_sy)
  have F6 := gF6 (M := zB A) (r := 5) (fun i j _ _ => zB_sy)
  have b0 : zb A 0 = 1 := by
    rw [← tB_e (by decide)]
    exact po_o1
  have b6 : zb A 6 = 0 := rfl
  have z0 := zb_e (A := A) (k := 0) (by decide)
  have z1 := zb_e (A := A) (k := 1) (by decide)
  have z2 := zb_e (A := A) (k := 2) (by decide)
  have z3 := zb_e (A := A) (k := 3) (by decide)
  have z4 := zb_e (A := A) (k := 4) (by decide)
  have z5 := zb_e (A := A) (k := 5) (by decide)
  rw [po_id (r := 5) (by decide) hk]
  rcases (show k = 0 ∨ k = 1 ∨ k = 2 ∨ k = 3 ∨ k = 4 ∨ k = 5 ∨ k = 6 by omega) with e | e | e | e | e | e | e
  · subst e
    show 0 + gF (zB A) 5 0 * zE (zB A) 5 0 = 1
    rw [F0, ← z0, b0]
    rfl
  · subst e
    show 0 + gF (zB A) 5 1 * zE (zB A) 5 0 + gF (zB A) 5 0 * zE (zB A) 5 1 = zb A 1 + zB A 5 5
    rw [F0, F1, ← z0, ← z1, b0]
    omega
  · subst e
    show 0 + gF (zB A) 5 2 * zE (zB A) 5 0 + gF (zB A) 5 1 * zE (zB A) 5 1 + gF (zB A) 5 0 * zE (zB A) 5 2 = zb A 2 + zB A 5 5 * zb A 1 - q1 (vM 5 (zB A) (zB A 5)) (tl (zb A) 0) 0
    rw [F0, F1, F2, ← z0, ← z1, ← z2, b0]
    simp only [tl, tg, List.map, q1]
    omega
  · subst e
    show 0 + gF (zB A) 5 3 * zE (zB A) 5 0 + gF (zB A) 5 2 * zE (zB A) 5 1 + gF (zB A) 5 1 * zE (zB A) 5 2 + gF (zB A) 5 0 * zE (zB A) 5 3 = zb A 3 + zB A 5 5 * zb A 2 - q1 (vM 5 (zB A) (zB A 5)) (tl (zb A) 1) 0
    rw [F0, F1, F2, F3, ← z0, ← z1, ← z2, ← z3, b0]
    simp only [tl, tg, List.map, q1, Nat.reduceAdd]
    generalize vM 5 (zB A) (zB A 5) = m
    generalize zb A = b
    grind
  · subst e
    show 0 + gF (zB A) 5 4 * zE (zB A) 5 0 + gF (zB A) 5 3 * zE (zB A) 5 1 + gF (zB A) 5 2 * zE (zB A) 5 2 + gF (zB A) 5 1 * zE (zB A) 5 3 + gF (zB A) 5 0 * zE (zB A) 5 4 = zb A 4 + zB A 5 5 * zb A 3 - q1 (vM 5 (zB A) (zB A 5)) (tl (zb A) 2) 0
    rw [F0, F1, F2, F3, F4, ← z0, ← z1, ← z2, ← z3, ← z4, b0]
    simp only [tl, tg, List.map, q1, Nat.reduceAdd]
    generalize vM 5 (zB A) (zB A 5) = m
    generalize zb A = b
    grind
  · subst e
    show 0 + gF (zB A) 5 5 * zE (zB A) 5 0 + gF (zB A) 5 4 * zE (zB A) 5 1 + gF (zB A) 5 3 * zE (zB A) 5 2 + gF (zB A) 5 2 * zE (zB A) 5 3 + gF (zB A) 5 1 * zE (zB A) 5 4 + gF (zB A) 5 0 * zE (zB A) 5 5 = zb A 5 + zB A 5 5 * zb A 4 - q1 (vM 5 (zB A) (zB A 5)) (tl (zb A) 3) 0
    rw [F0, F1, F2, F3, F4, F5, ← z0, ← z1, ← z2, ← z3, ← z4, ← z5, b0]
    simp only [tl, tg, List.map, q1, Nat.reduceAdd]
    generalize vM 5 (zB A) (zB A 5) = m
    generalize zb A = b
    grind
  · subst e
    show 0 + gF (zB A) 5 6 * zE (zB A) 5 0 + gF (zB A) 5 5 * zE (zB A) 5 1 + gF (zB A) 5 4 * zE (zB A) 5 2 + gF (zB A) 5 3 * zE (zB A) 5 3 + gF (zB A) 5 2 * zE (zB A) 5 4 + gF (zB A) 5 1 * zE (zB A) 5 5 = zb A 6 + zB A 5 5 * zb A 5 - q1 (vM 5 (zB A) (zB A 5)) (tl (zb A) 4) 0
    rw [F1, F2, F3, F4, F5, F6, ← z0, ← z1, ← z2, ← z3, ← z4, ← z5, b0, b6]
    simp only [tl, tg, List.map, q1, Nat.reduceAdd]
    generalize vM 5 (zB A) (zB A 5) = m
    generalize zb A = b
    grind
/-! tables that are alike -/
theorem gw_c (h : ∀ i j, i ≤ r → j ≤ r → M i j = M' i j) : ∀ m i, i < r → gW M r m i = gW M' r m i
  | 0, i, hi => h r i (Nat.le_refl _) (by omega)
  | m + 1, i, hi => by
    have ih := gw_c h m
    show (bif Nat.beq (m % 2) 0 then gW M r m else gk_mv (· + ·) (· * ·) 0 M r (gW M r m)) i = (bif Nat.beq (m % 2) 0 then gW M' r m else gk_mv (· + ·) (· * ·) 0 M' r (gW M' r m)) i
    cases Nat.beq (m % 2) 0 with
    | true => exact ih i hi
    | false =>
      show gk_mv (· + ·) (· * ·) 0 M r (gW M r m) i = gk_mv (· + ·) (· * ·) 0 M' r (gW M' r m) i
      rw [gmv, gmv]
      exact vS_c r (fun j hj => by rw [h i j (by omega) (by omega), ih j hj])
theorem gF_c (h : ∀ i j, i ≤ r → j ≤ r → M i j = M' i j) : ∀ k, gF M r k = gF M' r k
  | 0 => rfl
  | 1 => h r r (Nat.le_refl _) (Nat.le_refl _)
  | m + 2 => by
    show (bif Nat.beq (m % 2) 0 then -(gk_sum (· + ·) 0 (fun i => gW M r m i * gW M r m i) r) else gk_sum (· + ·) 0 (fun i => gW M r m i * gk_mv (· + ·) (· * ·) 0 M r (gW M r m) i) r) = (bif Nat.beq (m % 2) 0 then -(gk_sum (· + ·) 0 (fun i => gW M' r m i * gW M' r m i) r) else gk_sum (· + ·) 0 (fun i => gW M' r m i * gk_mv (· + ·) (· * ·) 0 M' r (gW M' r m) i) r)
    have w := gw_c h m
    have e1 : gk_sum (· + ·) 0 (fun i => gW M r m i * gW M r m i) r = gk_sum (· + ·) 0 (fun i => gW M' r m i * gW M' r m i) r := gk_sum_c r (fun i hi => by rw [w i hi])
    have e2 : gk_sum (· + ·) 0 (fun i => gW M r m i * gk_mv (· + ·) (· * ·) 0 M r (gW M r m) i) r = gk_sum (· + ·) 0 (fun i => gW M' r m i * gk_mv (· + ·) (· * ·) 0 M' r (gW M' r m) i) r := gk_sum_c r (fun i hi => by
      rw [gmv, gmv, w i hi]
      congr 1
      exact vS_c r (fun j hj => by rw [h i j (by omega) (by omega), w j hj]))
    rw [e1, e2]
abbrev gE (M : Nat → Nat → Int) (r k : Nat) : Int := gk_E (· + ·) (· * ·) (- ·) 0 1 M r k
theorem gE_c : ∀ r, (∀ i j, i < r → j < r → M i j = M' i j) → ∀ k, gE M r k = gE M' r k
  | 0, _, _ => rfl
  | r + 1, _, 0 => rfl
  | r + 1, h, k + 1 => by
    show gk_sum (· + ·) 0 (fun j => gF M r (k + 1 - j) * gE M r j) (min (k + 1) r + 1) = gk_sum (· + ·) 0 (fun j => gF M' r (k + 1 - j) * gE M' r j) (min (k + 1) r + 1)
    refine gk_sum_c _ (fun j _ => ?_)
    rw [gF_c (fun i j hi hj => h i j (by omega) (by omega)), gE_c r (fun i j hi hj => h i j (by omega) (by omega)) j]
theorem zE_c (hr : r ≤ 6) (hk : k ≤ r) (h : ∀ i j, i < r → j < r → zB A i j = zB A' i j) : zE (zB A) r k = zE (zB A') r k := by
  rw [← zE_gk r hr k hk, ← zE_gk r hr k hk]
  exact gE_c r h k
theorem vP_c (h : ∀ i j, i < n → j < n → B i j = B' i j) (hx : ∀ i, i < n → x i = y i) : ∀ k i, i < n → vP n B k x i = vP n B' k y i
  | 0, i, hi => hx i hi
  | k + 1, i, hi => vS_c n (fun j hj => by rw [h i j hi hj, vP_c h hx k j hj])
theorem vM_c (h : ∀ i j, i < n → j < n → B i j = B' i j) (hx : ∀ i, i < n → x i = y i) : vM n B x = vM n B' y := funext (fun k => vD_c hx (vP_c h hx k))
theorem zB_v {i j : Nat} (hi : i < 6) (hj : j < 6) : zB A i j = if i < j then A i j else A j i := by
  have k : ∀ x : Nat, po_ev (fun x => A (x / 6) (x % 6)) [([x], 1)] = A (x / 6) (x % 6) := fun x => by
    show 1 * (A (x / 6) (x % 6) * 1) + 0 = _
    omega
  unfold zB po_M
  rw [k]
  by_cases z : i < j
  · rw [if_pos z, Nat.blt_eq.mpr z]
    show A ((6 * i + j) / 6) ((6 * i + j) % 6) = _
    rw [show (6 * i + j) / 6 = i by omega, show (6 * i + j) % 6 = j by omega]
  · have nb : Nat.blt i j = false := by
      cases q : Nat.blt i j with
      | true => exact absurd (Nat.blt_eq.mp q) z
      | false => rfl
    rw [if_neg z, nb]
    show A ((6 * j + i) / 6) ((6 * j + i) % 6) = _
    rw [show (6 * j + i) / 6 = j by omega, show (6 * j + i) % 6 = i by omega]
theorem zB_c {i j : Nat} (hi : i < 6) (hj : j < 6) (h : ∀ i j, i < 6 → j < 6 → A i j = A' i j) : zB A i j = zB A' i j := by
  rw [zB_v hi hj, zB_v hi hj, h i j hi hj, h j i hj hi]
/-! the last entry is lowered -/
def lw (A : Nat → Nat → Int) (s : Nat) (d : Int) (i j : Nat) : Int := if i = s ∧ j = s then A i j - d else A i j
def zd (A : Nat → Nat → Int) : Nat → Int
  | 0 => 0
  | k + 1 => zb A k
theorem lw_B {s i j : Nat} (hi : i < 6) (hj : j < 6) : zB (lw A s d) i j = if i = s ∧ j = s then zB A i j - d else zB A i j := by
  rw [zB_v hi hj, zB_v hi hj]
  unfold lw
  by_cases l : i < j
  · rw [if_pos l, if_pos l]
  · rw [if_neg l, if_neg l]
    by_cases z : i = s ∧ j = s
    · rw [if_pos z, if_pos ⟨z.2, z.1⟩]
    · rw [if_neg z, if_neg (fun q => z ⟨q.2, q.1⟩)]
theorem lw_e (hk : k ≤ 6) : zE (zB (lw A 5 d)) 6 k = zE (zB A) 6 k - d * zd A k := by
  have h5 : ∀ i j, i < 5 → j < 5 → zB (lw A 5 d) i j = zB A i j := fun i j hi hj => by
    rw [lw_B (by omega) (by omega), if_neg (by omega)]
  have hu : ∀ i, i < 5 → zB (lw A 5 d) 5 i = zB A 5 i := fun i hi => by
    rw [lw_B (by omega) (by omega), if_neg (by omega)]
  have hz : zB (lw A 5 d) 5 5 = zB A 5 5 - d := by rw [lw_B (by omega) (by omega), if_pos ⟨rfl, rfl⟩]
  have hb : zb (lw A 5 d) = zb A := funext (fun j => by
    unfold zb
    by_cases q : j < 6
    · rw [if_pos q, if_pos q]
      exact zE_c (by decide) (by omega) h5
    · rw [if_neg q, if_neg q])
  have b0 : zb A 0 = 1 := by
    rw [← tB_e (by decide)]
    exact po_o1
  rw [af_e hk, af_e hk, hb, hz, vM_c h5 hu]
  match k with
  | 0 =>
    show (1 : Int) = 1 - d * 0
    rw [Int.mul_zero]
    rfl
  | 1 =>
    show zb A 1 + (zB A 5 5 - d) = zb A 1 + zB A 5 5 - d * zb A 0
    rw [b0]
    omega
  | m + 2 =>
    show zb A (m + 2) + (zB A 5 5 - d) * zb A (m + 1) - _ = zb A (m + 2) + zB A 5 5 * zb A (m + 1) - _ - d * zb A (m + 1)
    rw [Int.sub_mul]
    omega
theorem zi_c : ∀ k, (∀ i, i ≤ k → e i = e' i) → zi e k = zi e' k
  | 0, _ => rfl
  | k + 1, h => by
    unfold zi
    rw [h (k + 1) (Nat.le_refl _), zi_c k (fun i hi => h i (by omega))]
def zn (A : Nat → Nat → Int) : Nat := (zi (zE (zB A) 6) 6).1
theorem zn_c (h : ∀ k, k ≤ 6 → zE (zB A) 6 k = zE (zB A') 6 k) : zn A = zn A' := congrArg Prod.fst (zi_c (e := zE (zB A) 6) (e' := zE (zB A') 6) 6 h)
theorem zn_c2 (h : ∀ i j, i < 6 → j < 6 → A i j = A' i j) : zn A = zn A' := zn_c (fun k hk => zE_c (by decide) hk (fun i j hi hj => zB_c hi hj h))
theorem zn_5 (d0 : 0 < d) : zn A ≤ zn (lw A 5 d) := by
  have b0 : zb A 0 = 1 := by
    rw [← tB_e (by decide)]
    exact po_o1
  have hX := fun m (h1 : 1 ≤ m) (h5 : m ≤ 5) => xm_nn (B := zB A) (u := zB A 5) (z := zB A 5 5) (b := zb A) (fun i j _ _ => zB_sy) b0 rfl zb_nw (fun _ => zb_ch) m h1 h5
  have a0 : zE (zB A) 6 0 = 1 := af_e (by decide)
  have X : ∀ m, m < 6 → 0 ≤ zE (zB A) 6 m * zd A (m + 1) - zE (zB A) 6 (m + 1) * zd A m ∧ (zE (zB A) 6 m * zd A (m + 1) - zE (zB A) 6 (m + 1) * zd A m = 0 → zd A (m + 1) = 0) := fun m hm => by
    match m with
    | 0 =>
      rw [a0]
      show 0 ≤ 1 * zb A 0 - zE (zB A) 6 1 * 0 ∧ (1 * zb A 0 - zE (zB A) 6 1 * 0 = 0 → zb A 0 = 0)
      rw [b0, Int.mul_zero]
      exact ⟨by decide, fun q => absurd q (by decide)⟩
    | m + 1 =>
      rw [af_e (by omega), af_e (by omega)]
      exact hX (m + 1) (by omega) (by omega)
  have h := zi_mono (a := zE (zB A) 6) (b := zd A) (d := d) (n := 6) d0 a0 rfl (fun m hm => (X m hm).1) (fun m hm => (X m hm).2) 6 (Nat.le_refl _)
  have c := zi_c (e := fun i => zE (zB A) 6 i - d * zd A i) (e' := zE (zB (lw A 5 d)) 6) 6 (fun i hi => (lw_e hi).symm)
  rw [c] at h
  exact h
/-! the order of rows does not matter -/
def po_so : List Nat → List Nat
  | [] => []
  | a :: s => po_mm [a] (po_so s)
theorem po_soe : ∀ s, po_mo ρ (po_so s) = po_mo ρ s
  | [] => rfl
  | a :: s => by
    show po_mo ρ (po_mm [a] (po_so s)) = ρ a * po_mo ρ s
    rw [po_mme, po_soe s]
    show ρ a * 1 * _ = _
    rw [Int.mul_one]
def po_rn (σ : Nat → Nat) : po_P → po_P
  | [] => []
  | t :: p => po_add [(po_so (t.1.map σ), t.2)] (po_rn σ p)
theorem po_mor : ∀ s, po_mo ρ (s.map σ) = po_mo (fun x => ρ (σ x)) s
  | [] => rfl
  | a :: s => by
    show ρ (σ a) * po_mo ρ (s.map σ) = ρ (σ a) * _
    rw [po_mor s]
theorem po_rne : ∀ p, po_ev ρ (po_rn σ p) = po_ev (fun x => ρ (σ x)) p
  | [] => rfl
  | t :: p => by
    show po_ev ρ (po_add [(po_so (t.1.map σ), t.2)] (po_rn σ p)) = t.2 * po_mo (fun x => ρ (σ x)) t.1 + _
    rw [po_adde, po_rne p]
    show t.2 * po_mo ρ (po_so (t.1.map σ)) + 0 + _ = _
    rw [po_soe, po_mor, Int.add_zero]
def ro_s (x : Nat) : Nat := bif Nat.blt ((x / 6 + 1) % 6) ((x % 6 + 1) % 6) then 6 * ((x / 6 + 1) % 6) + (x % 6 + 1) % 6 else 6 * ((x % 6 + 1) % 6) + (x / 6 + 1) % 6
def ro_ck (k : Nat) : Bool := po_be (po_rn ro_s (lp_E po_add po_mul po_neg [] po_o po_M 6 k)) (lp_E po_add po_mul po_neg [] po_o po_M 6 k)
theorem ro_ck0 : ro_ck 0 = true := by decide +kernel
theorem ro_ck1 : ro_ck 1 = true := by decide +kernel
theorem ro_ck2 : ro_ck 2 = true := by decide +kernel
theorem ro_ck3 : ro_ck 3 = true := by decide +kernel
theorem ro_ck4 : ro_ck 4 = true := by decide +kernel
theorem ro_ck5 : ro_ck 5 = true := by decide +kernel
theorem ro_ck6 : ro_ck 6 = true := by decide +kernel
def ro (t : Nat) (A : Nat → Nat → Int) (i j : Nat) : Int := A ((i + t) % 6) ((j + t) % 6)
theorem ro_1 (sy : ∀ i j, i < 6 → j < 6 → A i j = A j i) (hk : k ≤ 6) : zE (zB (ro 1 A)) 6 k = zE (zB A) 6 k := by
  have h : ro_ck k = true := by
    rcases (show k = 0 ∨ k = 1 ∨ k = 2 ∨ k = 3 ∨ k = 4 ∨ k = 5 ∨ k = 6 by omega) with e | e | e | e | e | e | e
    · rw [e]; exact ro_ck0
    · rw [e]; exact ro_ck1
    · rw [e]; exact ro_ck2
    · rw [e]; exact ro_ck3
    · rw [e]; exact ro_ck4
    · rw [e]; exact ro_ck5
    · rw [e]; exact ro_ck6
  have e := congrArg (po_ev (tR A)) (po_bee _ _ h)
  rw [po_rne] at e
  have f : (fun x => tR A (ro_s x)) = tR (ro 1 A) := funext (fun x => by
    show A (ro_s x / 6) (ro_s x % 6) = A ((x / 6 + 1) % 6) ((x % 6 + 1) % 6)
    have l1 : (x / 6 + 1) % 6 < 6 := Nat.mod_lt _ (by decide)
    have l2 : (x % 6 + 1) % 6 < 6 := Nat.mod_lt _ (by decide)
    unfold ro_s
    generalize (x / 6 + 1) % 6 = a at *
    generalize (x % 6 + 1) % 6 = b at *
    cases Nat.blt a b with
    | true =>
      show A ((6 * a + b) / 6) ((6 * a + b) % 6) = _
      rw [show (6 * a + b) / 6 = a by omega, show (6 * a + b) % 6 = b by omega]
    | false =>
      show A ((6 * b + a) / 6) ((6 * b + a) % 6) = _
      rw [show (6 * b + a) / 6 = b by omega, show (6 * b + a) % 6 = a by omega]
      exact sy b a l2 l1)
  rw [f, lp_E_h po_H, lp_E_h po_H] at e
  exact e
theorem ro_t (sy : ∀ i j, i < 6 → j < 6 → A i j = A j i) (hk : k ≤ 6) : ∀ t, zE (zB (ro t A)) 6 k = zE (zB A) 6 k
  | 0 => zE_c (by decide) hk (fun i j hi hj => zB_c hi hj (fun i j hi hj => by
    show A ((i + 0) % 6) ((j + 0) % 6) = A i j
    rw [Nat.add_zero, Nat.add_zero, Nat.mod_eq_of_lt hi, Nat.mod_eq_of_lt hj]))
  | t + 1 => by
    have e : ro (t + 1) A = ro 1 (ro t A) := funext (fun i => funext (fun j => by
      show A ((i + (t + 1)) % 6) ((j + (t + 1)) % 6) = A (((i + 1) % 6 + t) % 6) (((j + 1) % 6 + t) % 6)
      rw [show ((i + 1) % 6 + t) % 6 = (i + (t + 1)) % 6 by omega, show ((j + 1) % 6 + t) % 6 = (j + (t + 1)) % 6 by omega]))
    rw [e, ro_1 (A := ro t A) (fun i j _ _ => sy _ _ (Nat.mod_lt _ (by decide)) (Nat.mod_lt _ (by decide))) hk]
    exact ro_t sy hk t
theorem zn_1 {s : Nat} (sy : ∀ i j, i < 6 → j < 6 → A i j = A j i) (hs : s < 6) (d0 : 0 < d) : zn A ≤ zn (lw A s d) := by
  have e1 : zn A = zn (ro (s + 1) A) := zn_c (fun i hi => (ro_t (k := i) sy hi (s + 1)).symm)
  have sy2 : ∀ i j, i < 6 → j < 6 → lw A s d i j = lw A s d j i := fun i j hi hj => by
    unfold lw
    by_cases z : i = s ∧ j = s
    · rw [if_pos z, if_pos ⟨z.2, z.1⟩, sy i j hi hj]
    · rw [if_neg z, if_neg (fun q => z ⟨q.2, q.1⟩), sy i j hi hj]
  have e2 : zn (lw (ro (s + 1) A) 5 d) = zn (lw A s d) := by
    rw [zn_c (A := lw A s d) (A' := ro (s + 1) (lw A s d)) (fun i hi => (ro_t (k := i) sy2 hi (s + 1)).symm)]
    refine zn_c2 (fun i j hi hj => ?_)
    show (if i = 5 ∧ j = 5 then A ((i + (s + 1)) % 6) ((j + (s + 1)) % 6) - d else A ((i + (s + 1)) % 6) ((j + (s + 1)) % 6)) = (if (i + (s + 1)) % 6 = s ∧ (j + (s + 1)) % 6 = s then A ((i + (s + 1)) % 6) ((j + (s + 1)) % 6) - d else A ((i + (s + 1)) % 6) ((j + (s + 1)) % 6))
    by_cases z : i = 5 ∧ j = 5
    · rw [if_pos z, if_pos (by omega)]
    · rw [if_neg z, if_neg (by omega)]
  rw [e1, ← e2]
  exact zn_5 d0
theorem zn_low {w : Nat → Int} (sy : ∀ i j, i < 6 → j < 6 → A i j = A j i) (w0 : ∀ i, i < 6 → 0 ≤ w i) (h : ∀ i j, i < 6 → j < 6 → A' i j = if i = j then A i j - w i else A i j) : zn A ≤ zn A' := by
  have S : ∀ s, s ≤ 6 → zn A ≤ zn (fun i j => if i = j ∧ i < s then A i j - w i else A i j) := fun s => by
    induction s with
    | zero =>
      intro _
      have : (fun i j => if i = j ∧ i < 0 then A i j - w i else A i j) = A := funext (fun i => funext (fun j => if_neg (fun q => Nat.not_lt_zero _ q.2)))
      rw [this]
      exact Nat.le_refl _
    | succ s ih =>
      intro hs
      refine Nat.le_trans (ih (by omega)) ?_
      by_cases z : w s = 0
      · have : (fun i j => if i = j ∧ i < s + 1 then A i j - w i else A i j) = (fun i j => if i = j ∧ i < s then A i j - w i else A i j) := funext (fun i => funext (fun j => by
          by_cases q : i = j ∧ i < s
          · rw [if_pos q, if_pos ⟨q.1, by omega⟩]
          · rw [if_neg q]
            by_cases q2 : i = j ∧ i < s + 1
            · have : i = s := by omega
              rw [if_pos q2, this, z, Int.sub_zero]
            · rw [if_neg q2]))
        rw [this]
        exact Nat.le_refl _
      · have p := w0 s (by omega)
        have k := zn_1 (A := fun i j => if i = j ∧ i < s then A i j - w i else A i j) (s := s) (d := w s) (fun i j hi hj => by
          show (if i = j ∧ i < s then A i j - w i else A i j) = (if j = i ∧ j < s then A j i - w j else A j i)
          by_cases q : i = j
          · rw [q]
          · rw [if_neg (fun q2 => q q2.1), if_neg (fun q2 => q q2.1.symm), sy i j hi hj]) (by omega) (by omega)
        refine Nat.le_trans k (Nat.le_of_eq (zn_c2 (fun i j _ _ => ?_)))
        show (if i = s ∧ j = s then (if i = j ∧ i < s then A i j - w i else A i j) - w s else (if i = j ∧ i < s then A i j - w i else A i j)) = (if i = j ∧ i < s + 1 then A i j - w i else A i j)
        by_cases q : i = s ∧ j = s
        · rw [if_pos q, if_neg (by omega), if_pos (by omega), q.1]
        · rw [if_neg q]
          by_cases q2 : i = j ∧ i < s
          · rw [if_pos q2, if_pos (by omega)]
          · rw [if_neg q2, if_neg (by omega)]
  refine Nat.le_trans (S 6 (Nat.le_refl _)) (Nat.le_of_eq (zn_c2 (fun i j hi hj => ?_)))
  rw [h i j hi hj]
  by_cases q : i = j
  · rw [if_pos q]
    exact if_pos ⟨q, hi⟩
  · rw [if_neg q]
    exact if_neg (fun z => q z.1)
end MX3
