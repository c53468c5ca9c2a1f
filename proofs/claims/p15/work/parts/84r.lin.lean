/-! ===== sums, symmetric tables, what is never negative ===== -/
section LN
variable {f g x y u : Nat → Int} {B : Nat → Nat → Int} {n m r : Nat} {c : Int}
def vS (f : Nat → Int) : Nat → Int
  | 0 => 0
  | n + 1 => vS f n + f n
theorem vS_c : ∀ n, (∀ i, i < n → f i = g i) → vS f n = vS g n
  | 0, _ => rfl
  | n + 1, h => by
    unfold vS
    rw [vS_c n (fun i hi => h i (by omega)), h n (by omega)]
theorem vS_add : ∀ n, vS (fun i => f i + g i) n = vS f n + vS g n
  | 0 => rfl
  | n + 1 => by
    unfold vS
    rw [vS_add n]
    omega
theorem vS_mul : ∀ n, vS (fun i => c * f i) n = c * vS f n
  | 0 => (Int.mul_zero _).symm
  | n + 1 => by
    unfold vS
    rw [vS_mul n, Int.mul_add]
theorem vS_mulr : ∀ n, vS (fun i => f i * c) n = vS f n * c
  | 0 => (Int.zero_mul _).symm
  | n + 1 => by
    unfold vS
    rw [vS_mulr n, Int.add_mul]
theorem vS_zero : ∀ n, vS (fun _ => 0) n = 0
  | 0 => rfl
  | n + 1 => by
    unfold vS
    rw [vS_zero n]
    rfl
theorem vS_sub : ∀ n, vS (fun i => f i - g i) n = vS f n - vS g n
  | 0 => rfl
  | n + 1 => by
    unfold vS
    rw [vS_sub n]
    omega
theorem vS_swap {F : Nat → Nat → Int} : ∀ n, vS (fun i => vS (fun j => F i j) m) n = vS (fun j => vS (fun i => F i j) n) m
  | 0 => (vS_zero m).symm
  | n + 1 => by
    rw [vS, vS_swap n, ← vS_add]
    exact vS_c m (fun j _ => rfl)
theorem vS_nn : ∀ n, (∀ i, i < n → 0 ≤ f i) → 0 ≤ vS f n
  | 0, _ => Int.le_refl 0
  | n + 1, h => by
    unfold vS
    have := vS_nn n (fun i hi => h i (by omega))
    have := h n (by omega)
    omega
theorem vS_e0 : ∀ n, (∀ i, i < n → 0 ≤ f i) → vS f n = 0 → ∀ i, i < n → f i = 0
  | 0, _, _, i, hi => absurd hi (Nat.not_lt_zero _)
  | n + 1, h, e, i, hi => by
    unfold vS at e
    have h1 := vS_nn n (fun i hi => h i (by omega))
    have h2 := h n (by omega)
    by_cases z : i = n
    · rw [z]
      omega
    · exact vS_e0 n (fun i hi => h i (by omega)) (by omega) i (by omega)
theorem sq_nn (a : Int) : 0 ≤ a * a := by
  rcases Int.le_total 0 a with h | h
  · exact Int.mul_nonneg h h
  · exact Int.mul_nonneg_of_nonpos_of_nonpos h h
theorem sq_e0 {a : Int} (h : a * a = 0) : a = 0 := by
  rcases Int.mul_eq_zero.mp h with h | h
  · exact h
  · exact h
/-- products of vectors; tables on vectors -/
def vD (n : Nat) (x y : Nat → Int) : Int := vS (fun i => x i * y i) n
def vB (n : Nat) (B : Nat → Nat → Int) (x : Nat → Int) (i : Nat) : Int := vS (fun j => B i j * x j) n
theorem vD_c {x' y' : Nat → Int} (h1 : ∀ i, i < n → x i = x' i) (h2 : ∀ i, i < n → y i = y' i) : vD n x y = vD n x' y' := vS_c n (fun i hi => by rw [h1 i hi, h2 i hi])
theorem vD_comm : vD n x y = vD n y x := vS_c n (fun i _ => Int.mul_comm _ _)
theorem vD_sym (sy : ∀ i j, i < n → j < n → B i j = B j i) : vD n x (vB n B y) = vD n (vB n B x) y := by
  unfold vD vB
  have e1 : ∀ i, i < n → x i * vS (fun j => B i j * y j) n = vS (fun j => x i * (B i j * y j)) n := fun i _ => (vS_mul n).symm
  have e2 : ∀ i, i < n → vS (fun j => B i j * x j) n * y i = vS (fun j => B i j * x j * y i) n := fun i _ => (vS_mulr n).symm
  rw [vS_c n e1, vS_c n e2, vS_swap n]
  refine vS_c n (fun j hj => vS_c n (fun i hi => ?_))
  rw [sy i j hi hj, Int.mul_comm (x i), Int.mul_right_comm]
def vP (n : Nat) (B : Nat → Nat → Int) : Nat → (Nat → Int) → Nat → Int
  | 0, x => x
  | k + 1, x => vB n B (vP n B k x)
/-- moments -/
def vM (n : Nat) (B : Nat → Nat → Int) (u : Nat → Int) (k : Nat) : Int := vD n u (vP n B k u)
theorem vP_D (sy : ∀ i j, i < n → j < n → B i j = B j i) : ∀ a b, vD n (vP n B a x) (vP n B b y) = vD n x (vP n B (a + b) y)
  | 0, b => by rw [Nat.zero_add]; rfl
  | a + 1, b => by
    show vD n (vB n B (vP n B a x)) (vP n B b y) = _
    rw [← vD_sym sy]
    show vD n (vP n B a x) (vP n B (b + 1) y) = _
    rw [vP_D sy a (b + 1), show a + (b + 1) = a + 1 + b by omega]
/-- unit vectors, traces -/
def vE (r : Nat) : Nat → Int := fun i => if i = r then 1 else 0
theorem vE_d : ∀ n, r < n → vS (fun i => x i * vE r i) n = x r
  | 0, h => absurd h (Nat.not_lt_zero _)
  | n + 1, h => by
    unfold vS
    by_cases z : r = n
    · have e : ∀ i, i < n → x i * vE r i = 0 := fun i hi => by
        unfold vE
        rw [if_neg (by omega), Int.mul_zero]
      rw [vS_c n e, vS_zero]
      unfold vE
      rw [if_pos z.symm, Int.mul_one, z]
      omega
    · rw [vE_d n (by omega)]
      unfold vE
      rw [if_neg (by omega), Int.mul_zero]
      omega
theorem vE_D (hr : r < n) : vD n x (vE r) = x r := vE_d n hr
def vTr (n : Nat) (B : Nat → Nat → Int) (k : Nat) : Int := vS (fun r => vM n B (vE r) k) n
/-- combinations of powers -/
def vL (n : Nat) (B : Nat → Nat → Int) (u : Nat → Int) : List Int → Nat → Nat → Int
  | [], _ => fun _ => 0
  | c :: cs, a => fun i => c * vP n B a u i + vL n B u cs (a + 1) i
/-- their products, by moments -/
def q1 (M : Nat → Int) : List Int → Nat → Int
  | [], _ => 0
  | d :: ds, m => d * M m + q1 M ds (m + 1)
def qL (M : Nat → Int) : List Int → List Int → Nat → Int
  | [], _, _ => 0
  | c :: cs, ds, m => c * q1 M ds m + qL M cs ds (m + 1)
theorem vL_1 (sy : ∀ i j, i < n → j < n → B i j = B j i) {a : Nat} : ∀ (ds : List Int) (b : Nat), vD n (vP n B a u) (vL n B u ds b) = q1 (vM n B u) ds (a + b)
  | [], b => by
    unfold vD
    exact (vS_c n (fun i _ => Int.mul_zero _)).trans (vS_zero n)
  | d :: ds, b => by
    show vS (fun i => vP n B a u i * (d * vP n B b u i + vL n B u ds (b + 1) i)) n = d * vM n B u (a + b) + q1 (vM n B u) ds (a + b + 1)
    have e : ∀ i, i < n → vP n B a u i * (d * vP n B b u i + vL n B u ds (b + 1) i) = d * (vP n B a u i * vP n B b u i) + vP n B a u i * vL n B u ds (b + 1) i := fun i _ => by
      rw [Int.mul_add, Int.mul_left_comm]
    rw [vS_c n e, vS_add, vS_mul]
    have h1 : vS (fun i => vP n B a u i * vP n B b u i) n = vM n B u (a + b) := vP_D sy a b
    have h2 : vS (fun i => vP n B a u i * vL n B u ds (b + 1) i) n = q1 (vM n B u) ds (a + (b + 1)) := vL_1 sy ds (b + 1)
    rw [h1, h2]
    rfl
theorem vL_D (sy : ∀ i j, i < n → j < n → B i j = B j i) {ds : List Int} {b : Nat} : ∀ (cs : List Int) (a : Nat), vD n (vL n B u cs a) (vL n B u ds b) = qL (vM n B u) cs ds (a + b)
  | [], a => by
    unfold vD
    exact (vS_c n (fun i _ => Int.zero_mul _)).trans (vS_zero n)
  | c :: cs, a => by
    show vS (fun i => (c * vP n B a u i + vL n B u cs (a + 1) i) * vL n B u ds b i) n = c * q1 (vM n B u) ds (a + b) + qL (vM n B u) cs ds (a + b + 1)
    have e : ∀ i, i < n → (c * vP n B a u i + vL n B u cs (a + 1) i) * vL n B u ds b i = c * (vP n B a u i * vL n B u ds b i) + vL n B u cs (a + 1) i * vL n B u ds b i := fun i _ => by
      rw [Int.add_mul, Int.mul_assoc]
    rw [vS_c n e, vS_add, vS_mul]
    have h1 : vS (fun i => vP n B a u i * vL n B u ds b i) n = q1 (vM n B u) ds (a + b) := vL_1 sy ds b
    have h2 : vS (fun i => vL n B u cs (a + 1) i * vL n B u ds b i) n = qL (vM n B u) cs ds (a + 1 + b) := vL_D sy cs (a + 1)
    rw [h1, h2, show a + 1 + b = a + b + 1 by omega]
theorem vL_sq (sy : ∀ i j, i < n → j < n → B i j = B j i) (cs : List Int) : 0 ≤ qL (vM n B u) cs cs 0 := by
  rw [← vL_D (u := u) sy cs 0 (ds := cs) (b := 0)]
  exact vS_nn n (fun i _ => sq_nn _)
/-- a table of three places: x_b at j, the b-th power of column r at i -/
def zL (n : Nat) (B : Nat → Nat → Int) (u : Nat → Int) : List (List Int) → Nat → Nat → Nat → Nat → Int
  | [], _, _, _, _ => 0
  | c :: cs, b, j, i, r => vL n B u c 0 j * vP n B b (vE r) i + zL n B u cs (b + 1) j i r
/-- straight and crossed products -/
def yS (M P : Nat → Int) (c : List Int) (b : Nat) : List (List Int) → Nat → Int
  | [], _ => 0
  | d :: ds, b' => (qL M c d 0 * P (b + b') - qL M c d (b + b')) + yS M P c b ds (b' + 1)
def yL (M P : Nat → Int) : List (List Int) → Nat → List (List Int) → Nat → Int
  | [], _, _, _ => 0
  | c :: cs, b, ds, b' => yS M P c b ds b' + yL M P cs (b + 1) ds b'
def v3 (n : Nat) (F : Nat → Nat → Nat → Int) : Int := vS (fun j => vS (fun i => vS (fun r => F j i r) n) n) n
theorem v3_c {F G : Nat → Nat → Nat → Int} (h : ∀ j i r, j < n → i < n → r < n → F j i r = G j i r) : v3 n F = v3 n G := vS_c n (fun j hj => vS_c n (fun i hi => vS_c n (fun r hr => h j i r hj hi hr)))
theorem v3_add {F G : Nat → Nat → Nat → Int} : v3 n (fun j i r => F j i r + G j i r) = v3 n F + v3 n G := by
  unfold v3
  rw [← vS_add]
  refine vS_c n (fun j _ => ?_)
  rw [← vS_add]
  refine vS_c n (fun i _ => ?_)
  rw [← vS_add]
theorem v3_sub {F G : Nat → Nat → Nat → Int} : v3 n (fun j i r => F j i r - G j i r) = v3 n F - v3 n G := by
  unfold v3
  rw [← vS_sub]
  refine vS_c n (fun j _ => ?_)
  rw [← vS_sub]
  refine vS_c n (fun i _ => ?_)
  rw [← vS_sub]
theorem v3_zero : v3 n (fun _ _ _ => 0) = 0 := by
  unfold v3
  rw [vS_c n (fun j _ => vS_c (g := fun _ => 0) n (fun i _ => vS_zero n)), vS_c n (fun j _ => vS_zero n), vS_zero]
theorem v3_nn {F : Nat → Nat → Nat → Int} (h : ∀ j i r, 0 ≤ F j i r) : 0 ≤ v3 n F := vS_nn n (fun j _ => vS_nn n (fun i _ => vS_nn n (fun r _ => h j i r)))
theorem v3_t {F : Nat → Nat → Nat → Int} : v3 n (fun j i r => F i j r) = v3 n F := vS_swap n
/-- two terms -/
theorem z_2 (sy : ∀ i j, i < n → j < n → B i j = B j i) {c d : List Int} {b b' : Nat} : v3 n (fun j i r => (vL n B u c 0 j * vP n B b (vE r) i) * (vL n B u d 0 j * vP n B b' (vE r) i) - (vL n B u c 0 j * vP n B b (vE r) i) * (vL n B u d 0 i * vP n B b' (vE r) j)) = qL (vM n B u) c d 0 * vTr n B (b + b') - qL (vM n B u) c d (b + b') := by
  rw [v3_sub]
  congr 1
  · have e : ∀ j, j < n → vS (fun i => vS (fun r => (vL n B u c 0 j * vP n B b (vE r) i) * (vL n B u d 0 j * vP n B b' (vE r) i)) n) n = vL n B u c 0 j * vL n B u d 0 j * vTr n B (b + b') := fun j _ => by
      rw [vS_swap n]
      unfold vTr
      rw [← vS_mul]
      refine vS_c n (fun r hr => ?_)
      unfold vM
      rw [← vP_D sy b b']
      unfold vD
      rw [← vS_mul]
      refine vS_c n (fun i _ => ?_)
      rw [Int.mul_assoc, Int.mul_assoc, Int.mul_left_comm (vP n B b (vE r) i)]
    show vS _ n = _
    rw [vS_c n e, vS_mulr]
    congr 1
    exact vL_D sy c 0
  · have e : v3 n (fun j i r => (vL n B u c 0 j * vP n B b (vE r) i) * (vL n B u d 0 i * vP n B b' (vE r) j)) = vS (fun r => vD n (vL n B u c 0) (vP n B b' (vE r)) * vD n (vL n B u d 0) (vP n B b (vE r))) n := by
      have e1 : ∀ j, j < n → vS (fun i => vS (fun r => (vL n B u c 0 j * vP n B b (vE r) i) * (vL n B u d 0 i * vP n B b' (vE r) j)) n) n = vS (fun r => (vL n B u c 0 j * vP n B b' (vE r) j) * vD n (vL n B u d 0) (vP n B b (vE r))) n := fun j _ => by
        rw [vS_swap n]
        refine vS_c n (fun r _ => ?_)
        unfold vD
        rw [← vS_mul]
        refine vS_c n (fun i _ => ?_)
        rw [Int.mul_assoc, Int.mul_assoc, Int.mul_comm (vP n B b (vE r) i), Int.mul_assoc, Int.mul_left_comm (vL n B u d 0 i), Int.mul_comm (vL n B u d 0 i) (vP n B b (vE r) i), Int.mul_comm (vP n B b (vE r) i), Int.mul_left_comm]
      show vS _ n = _
      rw [vS_c n e1, vS_swap n]
      refine vS_c n (fun r _ => ?_)
      exact vS_mulr n
    rw [e]
    have sh : ∀ (c : List Int) (a b : Nat) (r : Nat), r < n → vD n (vL n B u c a) (vP n B b (vE r)) = vL n B u c (a + b) r := fun c => by
      induction c with
      | nil =>
        intro a b r hr
        unfold vD
        exact (vS_c n (fun i _ => Int.zero_mul _)).trans (vS_zero n)
      | cons c0 cs ih =>
        intro a b r hr
        have e2 : ∀ i, i < n → (c0 * vP n B a u i + vL n B u cs (a + 1) i) * vP n B b (vE r) i = c0 * (vP n B a u i * vP n B b (vE r) i) + vL n B u cs (a + 1) i * vP n B b (vE r) i := fun i _ => by
          rw [Int.add_mul, Int.mul_assoc]
        show vS (fun i => (c0 * vP n B a u i + vL n B u cs (a + 1) i) * vP n B b (vE r) i) n = c0 * vP n B (a + b) u r + vL n B u cs (a + b + 1) r
        rw [vS_c n e2, vS_add, vS_mul]
        have h1 : vS (fun i => vP n B a u i * vP n B b (vE r) i) n = vP n B (a + b) u r := by
          have k1 : vD n (vP n B a u) (vP n B b (vE r)) = vD n (vP n B b (vE r)) (vP n B a u) := vD_comm
          have k2 : vD n (vP n B b (vE r)) (vP n B a u) = vD n (vE r) (vP n B (b + a) u) := vP_D sy b a
          have k3 : vD n (vE r) (vP n B (b + a) u) = vP n B (b + a) u r := vD_comm.trans (vE_D hr)
          rw [Nat.add_comm a b]
          exact k1.trans (k2.trans k3)
        have h2 : vS (fun i => vL n B u cs (a + 1) i * vP n B b (vE r) i) n = vL n B u cs (a + 1 + b) r := ih (a + 1) b r hr
        rw [h1, h2, show a + 1 + b = a + b + 1 by omega]
    have e3 : ∀ r, r < n → vD n (vL n B u c 0) (vP n B b' (vE r)) * vD n (vL n B u d 0) (vP n B b (vE r)) = vL n B u c b' r * vL n B u d b r := fun r hr => by
      rw [sh c 0 b' r hr, sh d 0 b r hr, Nat.zero_add, Nat.zero_add]
    rw [vS_c n e3]
    have := vL_D (u := u) sy c b' (ds := d) (b := b)
    rw [Nat.add_comm b' b] at this
    exact this
theorem z_S (sy : ∀ i j, i < n → j < n → B i j = B j i) {c : List Int} {b : Nat} : ∀ (ds : List (List Int)) (b' : Nat), v3 n (fun j i r => (vL n B u c 0 j * vP n B b (vE r) i) * zL n B u ds b' j i r - (vL n B u c 0 j * vP n B b (vE r) i) * zL n B u ds b' i j r) = yS (vM n B u) (vTr n B) c b ds b'
  | [], b' => by
    refine (v3_c (G := fun _ _ _ => 0) (fun j i r _ _ _ => ?_)).trans v3_zero
    show _ * 0 - _ * 0 = 0
    rw [Int.mul_zero]
    rfl
  | d :: ds, b' => by
    have e : ∀ j i r, j < n → i < n → r < n → (vL n B u c 0 j * vP n B b (vE r) i) * zL n B u (d :: ds) b' j i r - (vL n B u c 0 j * vP n B b (vE r) i) * zL n B u (d :: ds) b' i j r = ((vL n B u c 0 j * vP n B b (vE r) i) * (vL n B u d 0 j * vP n B b' (vE r) i) - (vL n B u c 0 j * vP n B b (vE r) i) * (vL n B u d 0 i * vP n B b' (vE r) j)) + ((vL n B u c 0 j * vP n B b (vE r) i) * zL n B u ds (b' + 1) j i r - (vL n B u c 0 j * vP n B b (vE r) i) * zL n B u ds (b' + 1) i j r) := fun j i r _ _ _ => by
      show (vL n B u c 0 j * vP n B b (vE r) i) * (vL n B u d 0 j * vP n B b' (vE r) i + zL n B u ds (b' + 1) j i r) - (vL n B u c 0 j * vP n B b (vE r) i) * (vL n B u d 0 i * vP n B b' (vE r) j + zL n B u ds (b' + 1) i j r) = _
      rw [Int.mul_add, Int.mul_add]
      omega
    rw [v3_c e, v3_add, z_2 sy, z_S sy ds (b' + 1)]
    rfl
theorem z_L (sy : ∀ i j, i < n → j < n → B i j = B j i) {ds : List (List Int)} {b' : Nat} : ∀ (cs : List (List Int)) (b : Nat), v3 n (fun j i r => zL n B u cs b j i r * zL n B u ds b' j i r - zL n B u cs b j i r * zL n B u ds b' i j r) = yL (vM n B u) (vTr n B) cs b ds b'
  | [], b => by
    refine (v3_c (G := fun _ _ _ => 0) (fun j i r _ _ _ => ?_)).trans v3_zero
    show 0 * _ - 0 * _ = 0
    rw [Int.zero_mul, Int.zero_mul]
    rfl
  | c :: cs, b => by
    have e : ∀ j i r, j < n → i < n → r < n → zL n B u (c :: cs) b j i r * zL n B u ds b' j i r - zL n B u (c :: cs) b j i r * zL n B u ds b' i j r = ((vL n B u c 0 j * vP n B b (vE r) i) * zL n B u ds b' j i r - (vL n B u c 0 j * vP n B b (vE r) i) * zL n B u ds b' i j r) + (zL n B u cs (b + 1) j i r * zL n B u ds b' j i r - zL n B u cs (b + 1) j i r * zL n B u ds b' i j r) := fun j i r _ _ _ => by
      show (vL n B u c 0 j * vP n B b (vE r) i + zL n B u cs (b + 1) j i r) * zL n B u ds b' j i r - (vL n B u c 0 j * vP n B b (vE r) i + zL n B u cs (b + 1) j i r) * zL n B u ds b' i j r = _
      rw [Int.add_mul, Int.add_mul]
      omega
    rw [v3_c e, v3_add, z_S sy ds b', z_L sy cs (b + 1)]
    rfl
/-- never negative -/
theorem y_nn (sy : ∀ i j, i < n → j < n → B i j = B j i) (cs : List (List Int)) : 0 ≤ yL (vM n B u) (vTr n B) cs 0 cs 0 := by
  have h := z_L (u := u) sy cs 0 (ds := cs) (b' := 0)
  have h0 : 0 ≤ v3 n (fun j i r => (zL n B u cs 0 j i r - zL n B u cs 0 i j r) * (zL n B u cs 0 j i r - zL n B u cs 0 i j r)) := v3_nn (fun j i r => sq_nn _)
  have e : v3 n (fun j i r => (zL n B u cs 0 j i r - zL n B u cs 0 i j r) * (zL n B u cs 0 j i r - zL n B u cs 0 i j r)) = v3 n (fun j i r => zL n B u cs 0 j i r * zL n B u cs 0 j i r - zL n B u cs 0 j i r * zL n B u cs 0 i j r) + v3 n (fun j i r => zL n B u cs 0 i j r * zL n B u cs 0 i j r - zL n B u cs 0 i j r * zL n B u cs 0 j i r) := by
    rw [← v3_add]
    refine v3_c (fun j i r _ _ _ => ?_)
    rw [Int.sub_mul, Int.mul_sub, Int.mul_sub]
    omega
  have t : v3 n (fun j i r => zL n B u cs 0 i j r * zL n B u cs 0 i j r - zL n B u cs 0 i j r * zL n B u cs 0 j i r) = v3 n (fun j i r => zL n B u cs 0 j i r * zL n B u cs 0 j i r - zL n B u cs 0 j i r * zL n B u cs 0 i j r) := v3_t (F := fun j i r => zL n B u cs 0 j i r * zL n B u cs 0 j i r - zL n B u cs 0 j i r * zL n B u cs 0 i j r)
  rw [e, t, h] at h0
  omega
end LN
